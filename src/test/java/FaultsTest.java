/** Texts with their FAULTS: a caret in front of the TOKEN that has it is no part of the text. */
public final class FaultsTest {
    private static final String NAMED = "reach head bank 30 gate 10;reach low bank 9 gate 9;mill oak at head needs 9;"
            + "winder ann strength 15;";
    private static final Check CHECK = new Check();

    public static void main(String[] args) {
        tokens();
        riverPlaces();
        riverNames();
        riverNumbers();
        riverTold();
        weeksPlaces();
        weeksNames();
        weeksNumbers();
        weeksLimits();
        CHECK.end("FaultsTest");
    }

    private static void river(int kind, String marked) {
        ClockRiver x = new ClockRiver();
        String text = marked.replace("^", "");
        CHECK.refused(marked, x, Check.river(x, text), 10);
        CHECK.due(marked + ", kind", x.fault(0), kind);
        CHECK.due(marked + ", place", x.fault(1), marked.indexOf('^'));
    }

    private static void weeks(int kind, String marked) {
        ClockRiver x = Check.riverOf(NAMED);
        String text = marked.replace("^", "");
        CHECK.refused(marked, x, Check.weeks(x, text), 10);
        CHECK.due(marked + ", kind", x.fault(0), kind);
        CHECK.due(marked + ", place", x.fault(1), marked.indexOf('^'));
    }

    private static void riverFine(String text, int reaches) {
        ClockRiver x = new ClockRiver();
        CHECK.taken(text, x, Check.river(x, text), reaches);
        CHECK.due(text, x.fault(0), 0);
        CHECK.due(text, x.fault(1), -1);
    }

    private static void weeksFine(String text, int steps) {
        ClockRiver x = Check.riverOf(NAMED);
        CHECK.taken(text, x, Check.weeks(x, text), steps);
        CHECK.due(text, x.fault(0), 0);
        CHECK.due(text, x.fault(1), -1);
    }

    private static void tokens() {
        river(1, "^!");
        river(1, "^A");
        river(1, "turns 5;^\t");
        river(1, "turns 5;^\rslack 1;");
        river(1, "turns 5^.;");
        river(1, "turns ^-5;");
        river(1, "turns ^00005;");
        river(1, "turns ^123456");
        river(1, "turns 5;^12345");
        river(1, "^" + (char) 255);
        river(1, "turns 5 ;^" + (char) 0);
        river(2, "turns ^five");
        river(2, "turns 5;^5;");
        riverFine("", 0);
        riverFine(" \n \n", 0);
        riverFine("turns 0005;", 0);
        riverFine("\nturns\n60\n;\n", 0);
    }

    private static void riverPlaces() {
        river(2, "^1");
        river(2, "^;");
        river(2, "^<");
        river(2, "^name");
        river(2, "^hour 3;");
        river(2, "^turnsturns 5;");
        river(2, "turns^");
        river(2, "turns ^;");
        river(2, "turns  ^");
        river(2, "turns 5^");
        river(2, "turns 5   \n^");
        river(2, "turns 5 ^6;");
        river(2, "turns 5 ^slack 1;");
        river(2, "turns 5;^;");
        river(2, "reach ^;");
        river(2, "reach ^reach bank 1 gate 1;");
        river(2, "reach ^stop bank 1 gate 1;");
        river(2, "reach ^raining bank 1 gate 1;");
        river(2, "reach ^strength bank 1 gate 1;");
        river(2, "reach ^abcdefghi bank 1 gate 1;");
        river(2, "reach ^7 bank 1 gate 1;");
        river(2, "reach a ^gate 1 bank 1;");
        river(2, "reach a bank 1 ^holds 1;");
        river(2, "reach a bank 1 gate 1 ^bank 1;");
        river(2, "reach a bank 1 gate 1 holds ^;");
        river(2, "reach a bank 1 gate 1 holds 1 ^holds 1;");
        river(2, "reach a bank 9 gate 1 holds 1^");
        river(2, "reach a bank 1 gate 1;mill m ^needs 1;");
        river(2, "reach a bank 1 gate 1;mill m at ^needs 1;");
        river(2, "reach a bank 1 gate 1;mill m at ^abcdefghi needs 1;");
        river(2, "reach a bank 1 gate 1;mill m at a ^at 1;");
        river(2, "reach a bank 1 gate 1;mill m at a needs 1 ^wage 1;");
        river(2, "winder w ^wage 3;");
        river(2, "winder w strength 3 wage ^;");
        river(2, "winder w strength 3 wage 3 ^wage 3;");
        riverFine("reach abcdefgh bank 1 gate 1;reach abcdefg bank 1 gate 1;reach turn bank 1 gate 1;", 3);
        riverFine("reach ends bank 1 gate 1;reach e bank 1 gate 1;reach z bank 1 gate 1;", 3);
    }

    private static void riverNames() {
        river(3, "reach a bank 1 gate 1;reach ^a bank 1 gate 1;");
        river(3, "reach a bank 1 gate 1;mill ^a at a needs 1;");
        river(3, "reach a bank 1 gate 1;winder ^a strength 1;");
        river(3, "reach a bank 1 gate 1;mill m at a needs 1;mill ^m at a needs 1;");
        river(3, "reach a bank 1 gate 1;mill m at a needs 1;reach ^m bank 1 gate 1;");
        river(3, "winder w strength 1;winder ^w strength 1;");
        river(3, "winder w strength 1;reach ^w bank 1 gate 1;");
        river(3, "mill m at ^a needs 1;reach a bank 1 gate 1;");
        river(3, "reach a bank 1 gate 1;mill m at ^m needs 1;");
        river(3, "reach a bank 1 gate 1;winder w strength 1;mill m at ^w needs 1;");
        river(3, "reach ab bank 1 gate 1;mill m at ^ba needs 1;");
        river(3, "reach a bank 1 gate 1;mill m at ^aa needs 100;");
    }

    private static void riverNumbers() {
        river(4, "turns ^61;");
        river(4, "slack ^10;");
        river(4, "rain ^100;");
        river(4, "odds ^17;");
        river(4, "odds ^17");
        river(4, "reach a bank ^1000 gate 1;");
        river(4, "reach a bank 1 gate ^100;");
        river(4, "reach a bank 999 gate 1 holds ^1000;");
        river(4, "reach a bank 7 gate 1 holds ^8;");
        river(4, "reach a bank 1 gate 1;mill m at a needs ^0;");
        river(4, "reach a bank 1 gate 1;mill m at a needs ^100;");
        river(4, "winder w strength ^0;");
        river(4, "winder w strength ^41;");
        river(4, "winder w strength 1 wage ^100;");
        riverFine("turns 60;slack 9;rain 99;odds 16;reach a bank 999 gate 99 holds 999;mill m at a needs 99;"
                + "winder w strength 40 wage 99;", 1);
        riverFine("turns 0;slack 0;rain 0;odds 0;reach a bank 0 gate 0 holds 0;mill m at a needs 1;"
                + "winder w strength 1 wage 0;", 1);
    }

    private static void riverTold() {
        river(5, "turns 5;^turns 5;");
        river(5, "slack 5;^slack;");
        river(5, "rain 5;turns 5;^rain 5;");
        river(5, "odds 5;^odds 99;");
        StringBuilder six = new StringBuilder("reach x bank 1 gate 1;mill y at x needs 1;winder z strength 1;");
        for (int i = 0; i < 5; i++) {
            char c = (char) ('a' + i);
            six.append("reach r").append(c).append(" bank 1 gate 1;mill m").append(c).append(" at x needs 1;winder w")
                    .append(c).append(" strength 1;");
        }
        riverFine(six.toString(), 6);
        river(6, six + "^reach x bank 1 gate 1;");
        river(6, six + "^mill;");
        river(6, six + "turns 1;^winder q strength 1;");
        river(6, six + "^winder");
    }

    private static void weeksPlaces() {
        weeks(2, "^go;");
        weeks(2, "^turns 3;");
        weeks(2, "^end;");
        weeks(2, "loop 2;end;^end;");
        weeks(2, "loop 2;end^");
        weeks(2, "loop 2;end ^end;");
        weeks(2, "loop 2;^");
        weeks(2, "when raining;oil;  ^");
        weeks(2, "loop 1;when raining;end;^");
        weeks(2, "stop^");
        weeks(2, "stop ^stop;");
        weeks(2, "rain ^5;");
        weeks(2, "hour ^;");
        weeks(2, "hour ^ann;");
        weeks(2, "wind ^back;");
        weeks(2, "wind ^abcdefghi;");
        weeks(2, "wind ann ^bob;");
        weeks(2, "wind ann back ^back;");
        weeks(2, "gate ^5;");
        weeks(2, "gate ^gate 5;");
        weeks(2, "gate head ^;");
        weeks(2, "gate head ^=5;");
        weeks(2, "when ^;");
        weeks(2, "when ^head>5;");
        weeks(2, "when stored ^>5;");
        weeks(2, "when stored head ^5;");
        weeks(2, "when stored head ^;");
        weeks(2, "when stored head>^=5;");
        weeks(2, "when stored head>^oak;");
        weeks(2, "when raining ^=1;");
        weeks(2, "loop ^;");
        weeks(1, "loop 1;^{");
        weeks(1, "gate head ^10000;");
        weeks(1, "when ground oak<^12345;");
        weeksFine("", 0);
        weeksFine("wind ann;wind ann back;when stored low<9;when ground oak=9999;end;when raining;end;end;stop;", 6);
    }

    private static void weeksNames() {
        weeks(3, "wind ^bob;");
        weeks(3, "wind ^head;");
        weeks(3, "gate ^ann 5;");
        weeks(3, "gate ^oak 5;");
        weeks(3, "when stored ^oak>5;");
        weeks(3, "when ground ^head>5;");
        weeks(3, "when ground ^abcdefgh>5;");
    }

    private static void weeksNumbers() {
        weeks(4, "hour ^0;");
        weeks(4, "hour ^25;");
        weeks(4, "gate head ^100;");
        weeks(4, "when stored head>^1000;");
        weeks(4, "loop ^0;");
        weeks(4, "loop ^100;");
        weeksFine("hour 1;hour 24;gate head 0;gate head 99;when stored head=999;end;loop 1;end;loop 99;end;", 7);
    }

    private static void weeksLimits() {
        weeks(6, "oil;".repeat(30) + "^oil;");
        weeks(6, "oil;".repeat(29) + "loop 2;end;^dry");
        weeks(2, "oil;".repeat(30) + "^end;");
        weeks(7, "loop 1;when raining;loop 1;^when raining;");
        weeks(7, "loop 1;loop 1;loop 1;end;loop 1;oil;^loop 0;");
        weeks(6, "oil;".repeat(27) + "loop 1;loop 1;loop 1;^loop 1;");
        weeksFine("oil;".repeat(27) + "loop 1;loop 1;loop 1;end;end;end;", 30);
        weeksFine("loop 1;end;".repeat(27) + " ".repeat(3), 27);
        weeksFine("loop 1;loop 1;loop 1;end;end;end;".repeat(5) + "loop 1;loop 1;loop 1;end;end;loop 1;end;end;", 19);
    }
}
