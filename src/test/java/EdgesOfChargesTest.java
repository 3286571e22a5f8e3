/** Each sentence of the document that names a boundary of promises 15 to 20, and of CHARGES and CASES (==== 3.). */
public final class EdgesOfChargesTest {
    private static final Check CHECK = new Check("EdgesOfChargesTest");
    private static final String T = Texts.TETRAHEDRON;
    private static final String[] FAR = {"-1", "0x80000000", "0x7fffffff"};
    // degrees 4, 3, 5, 5, 4, 3: spot 5, of degree 3, has one neighbour of degree 4
    private static final String STACKED = "spot 2 5 3 4;spot 4 3 2;spot 5 0 4 1 3;spot 5 2 1 4 0;spot 0 3 1 2;spot 0 2 3;";

    private static void run(String sentence, String... rows) {
        Script.run(CHECK, sentence, rows);
    }

    private static void ahead() {
        for (int n = 3; n <= 9; n++) {
            run("CHARGE: 10 by 6 less DEGREE", "atlas: " + Texts.tops(n) + " = 0", "spot 0 4 = " + 10 * (6 - n), "spot 2 4 = 20",
                "spot 0 5 = " + 10 * (6 - n), "count 4 = 120", "count 5 = 120");
        }
        for (int hub = 5; hub <= 7; hub++) {
            String row = "5555555".substring(0, hub);
            run("CHARGE of a HUB: 10 by 6 less DEGREE", "hub " + hub + " " + row + " 0 = " + 10 * (6 - hub));
        }
    }

    private static void sending() {
        for (int at = 0; at < 4; at++) {
            for (int degree = 3; degree <= 9; degree++) {
                String[] four = {"5", "5", "5", "5"};
                four[at] = "" + degree;
                run("3 to 9", "atlas: rule 5 from 3 9 to 3 9 both 3 9; = 0", "sends " + String.join(" ", four) + " = 5");
            }
            for (String wrong : new String[] {"2", "10", "0", "-1", "-5", "0x80000000", "0x7fffffff"}) {
                String[] four = {"5", "5", "5", "5"};
                four[at] = wrong;
                run("IllegalArgumentException: one isn't 3 to 9", "sends " + String.join(" ", four) + " = Illegal");
            }
        }
        run("without RULES nothing", "sends 5 7 5 5 = 0", "sends 3 3 3 3 = 0", "sends 9 9 9 9 = 0");
        for (int low = 3; low <= 9; low++) {
            for (int high = low; high <= 9; high++) {
                MapPieces x = Check.of("rule 1 from " + low + " " + high + " to 3 9;rule 2 from 3 9 to " + low + " " + high + ";"
                    + "rule 4 from 3 9 to 3 9 with " + low + " " + high + ";rule 8 from 3 9 to 3 9 both " + low + " " + high + ";");
                for (int d = 3; d <= 9; d++) {
                    boolean is = low <= d && d <= high;
                    boolean isLow = low == 3;
                    String shown = low + " to " + high + ", of " + d + ": ";
                    // the others are 3, so that they are so just where LOW is 3
                    CHECK.due(shown + "'from' LOW to HIGH", x.sends(d, 3, 3, 3) & 1, is ? 1 : 0);
                    CHECK.due(shown + "'to' LOW to HIGH", x.sends(3, d, 3, 3) & 2, is ? 2 : 0);
                    CHECK.due(shown + "'with': at least one of both beside", x.sends(3, 3, d, 3) & 4, is || isLow ? 4 : 0);
                    CHECK.due(shown + "'with': at least one of both beside", x.sends(3, 3, 3, d) & 4, is || isLow ? 4 : 0);
                    CHECK.due(shown + "'both': both are", x.sends(3, 3, d, 3) & 8, is && isLow ? 8 : 0);
                    CHECK.due(shown + "'both': both are", x.sends(3, 3, 3, d) & 8, is && isLow ? 8 : 0);
                    CHECK.due(shown + "'both': both are", x.sends(3, 3, d, d) & 8, is ? 8 : 0);
                }
            }
        }
        run("AMOUNTS of all RULES, together", "atlas: " + "rule 99 from 5 5 to 6 6;".repeat(6) + " = 0", "sends 5 6 3 9 = 594",
            "tune 5 1 = 99", "sends 5 6 3 9 = 496", "sends 6 5 3 9 = 0");
    }

    private static void hubEdges() {
        String far = "HUB not 5 to 7";
        run(far, "hub 4 5555 0 = Illegal", "hub 8 55555555 0 = Illegal", "hub 5 55555 0 = 10", "hub 7 5555555 0 = -10",
            "hub 0 0 0 = Illegal", "hub -5 55555 0 = Illegal", "hub 0x80000000 55555 0 = Illegal",
            "hub 0x7fffffff 55555 0 = Illegal", "hub 3 555 1 = Illegal", "hub 9 555555555 1 = Illegal");
        run("ROW not of so many digits", "hub 5 5555 0 = Illegal", "hub 5 555555 0 = Illegal", "hub 6 55555 0 = Illegal",
            "hub 6 5555555 0 = Illegal", "hub 7 555555 0 = Illegal", "hub 7 55555555 0 = Illegal", "hub 6 555555 0 = 0",
            "hub 5 0 0 = Illegal", "hub 5 5 0 = Illegal", "hub 5 1555555555 0 = Illegal", "hub 7 0x7fffffff 0 = Illegal");
        run("ROW below 0", "hub 5 -55555 0 = Illegal", "hub 5 0x80000000 0 = Illegal", "hub 7 -5555555 1 = Illegal");
        int[] places = {1, 10, 100, 1000, 10000, 100000, 1000000};
        for (int hub = 5; hub <= 7; hub++) {
            int fives = Integer.parseInt("5555555".substring(0, hub));
            for (int place = 0; place < hub; place++) {
                for (int digit = 0; digit <= 9; digit++) {
                    int row = fives + (digit - 5) * places[place];
                    run("digits 5 to 9", "hub " + hub + " " + row + " 0 = " + (digit < 5 ? "Illegal" : "" + 10 * (6 - hub)));
                }
            }
        }
        for (String what : FAR) {
            run("another what", "hub 5 55555 " + what + " = NoSuch", "hub 4 0 " + what + " = NoSuch");
        }
        run("what 1 is the last", "hub 5 55555 1 = 0", "hub 5 55555 2 = NoSuch");
        run("IllegalArgumentException behind NoSuchElementException", "hub 4 55555 2 = NoSuch", "hub 5 5 2 = NoSuch",
            "hub 4 55555 1 = Illegal", "hub 5 5 1 = Illegal");
    }

    private static void behind() {
        String row = "what each of the ROW SENDS to it, less what it SENDS to each";
        run(row, "atlas: rule 3 from 6 6 to 5 5;rule 10 from 5 5 to 7 7; = 0", "hub 5 55555 0 = 10", "hub 5 66666 0 = 25",
            "hub 5 77777 0 = -40", "hub 5 67676 0 = -1", "hub 6 555555 0 = -18", "hub 7 5555555 0 = 60");
        run("to itself as much as from it", "atlas: rule 99 from 5 5 to 5 5; = 0", "hub 5 55555 0 = 10", "hub 5 66666 0 = 10");
        String beside = "atlas: rule 3 from 6 6 to 5 5 with 9 9; = 0";
        run("beside are those ahead and behind in the ROW, round", beside, "hub 5 69888 0 = 13", "hub 5 96888 0 = 13",
            "hub 5 68889 0 = 13", "hub 5 98886 0 = 13", "hub 5 68988 0 = 10", "hub 5 68898 0 = 10", "hub 5 69696 0 = 19",
            "hub 5 96969 0 = 16", "hub 5 66666 0 = 10");
        run("beside are both of them", "atlas: rule 3 from 6 6 to 5 5 both 9 9; = 0", "hub 5 69889 0 = 13", "hub 5 96988 0 = 13",
            "hub 5 98896 0 = 13", "hub 5 69888 0 = 10", "hub 5 68889 0 = 10", "hub 5 96969 0 = 16");
        run("the most and the least", "atlas: " + "rule 99 from 5 5 to 7 7;".repeat(6) + " = 0", "hub 7 5555555 0 = 4148",
            "hub 5 77777 0 = -2960", "cases 7 5 = 4148", "cases 5 5 = 10", "cases 5 4 = 55555");
        run("a TUNED AMOUNT", "atlas: rule 1 from 5 5 to 7 7; = 0", "hub 5 77777 0 = 5", "tune 0 2 = 1", "hub 5 77777 0 = 0",
            "undo = 0", "hub 5 77777 0 = 5");
    }

    private static void holding() {
        run("HOLDS: HUB is d", "atlas: piece 5;piece 6;piece 7; = 0", "hub 5 99999 1 = 1", "hub 6 999999 1 = 2",
            "hub 7 9999999 1 = 4");
        run("HOLDS: SPOKES, none, too", "atlas: piece 5; = 0", "hub 5 55555 1 = 1", "hub 5 98765 1 = 1", "hub 6 555555 1 = 0");
        String[] rows = {"56989", "95698", "89569", "98956", "69895", "65989", "96598", "89659", "98965", "59896"};
        for (String row : rows) {
            run("HOLDS: side by side, round, from any of it on or back", "atlas: piece 5 5 6; = 0", "hub 5 " + row + " 1 = 1");
        }
        run("HOLDS: not side by side", "atlas: piece 5 5 6; = 0", "hub 5 58689 1 = 0", "hub 5 59698 1 = 0", "hub 5 55555 1 = 0",
            "hub 5 66666 1 = 0", "hub 5 59869 1 = 0");
        run("HOLDS: one SPOKE", "atlas: piece 5 6; = 0", "hub 5 69999 1 = 1", "hub 5 99996 1 = 1", "hub 5 99699 1 = 1",
            "hub 5 55555 1 = 0");
        run("HOLDS: a WHEEL", "atlas: piece 5 5 5 5 5 7;piece 5 5 6 5 5 6; = 0", "hub 5 55557 1 = 1", "hub 5 75555 1 = 1",
            "hub 5 55755 1 = 1", "hub 5 55566 1 = 0", "hub 5 65565 1 = 2", "hub 5 55656 1 = 2", "hub 5 55555 1 = 0");
        run("PIECES that it HOLDS, as bits", "atlas: piece 5;piece 6;piece 5 5 5;piece 5 6; = 0", "hub 5 55555 1 = 5",
            "hub 5 66666 1 = 9", "hub 5 55666 1 = 13", "hub 6 555555 1 = 2", "hub 7 5555555 1 = 0");
        run("no PIECES", "hub 5 55555 1 = 0", "cases 5 2 = 0");
    }

    private static void caseEdges() {
        for (String what : FAR) {
            run("another what", "cases 5 " + what + " = NoSuch", "cases 8 " + what + " = NoSuch");
        }
        run("what 5 is the last", "cases 5 5 = 10", "cases 5 6 = NoSuch");
        run("HUB not 5 to 7", "cases 4 0 = Illegal", "cases 8 0 = Illegal", "cases 5 0 = 39", "cases 7 0 = 198", "cases 0 5 = Illegal",
            "cases -1 0 = Illegal", "cases 0x80000000 0 = Illegal", "cases 0x7fffffff 0 = Illegal");
        run("IllegalArgumentException behind NoSuchElementException", "cases 4 6 = NoSuch", "cases 8 -1 = NoSuch",
            "cases 4 5 = Illegal");
        run("ROWS of 5, 6, 7 alone, of those that are one by turning round and over the least one", "cases 5 0 = 39",
            "cases 6 0 = 92", "cases 7 0 = 198");
        run("POSITIVE: above 0", "atlas: rule 9 from 5 5 to 6 7; = 0", "cases 5 1 = 3", "cases 5 5 = 10", "tune 0 10 = 9",
            "cases 5 1 = 1", "cases 6 1 = 79", "cases 6 5 = 60");
        run("POSITIVE: none at 0", "cases 6 5 = 0", "cases 6 1 = 0", "cases 6 3 = 0", "cases 6 4 = -1");
        String five = "rule 10 from 5 5 to 6 7;";
        run("COVERED: HOLD a REDUCIBLE PIECE", "atlas: piece 5 5 5 5;" + five + " = 0", "cases 5 1 = 1", "cases 5 2 = 1",
            "cases 5 3 = 0", "cases 5 4 = -1");
        run("FAILED: a PIECE that isn't REDUCIBLE", "atlas: piece 5;piece 5 5;piece 5 5 5;" + five + " = 0", "cases 5 1 = 1",
            "cases 5 2 = 0", "cases 5 3 = 1", "cases 5 4 = 55555");
        run("COVERED: the last of the PIECES", "atlas: piece 5;piece 6;piece 7;piece 5 5 5 5;" + five + " = 0", "cases 5 2 = 1",
            "cases 5 3 = 0");
        run("COVERED: POSITIVE alone", "atlas: piece 6 5 5 5; = 0", "cases 6 2 = 0", "cases 6 3 = 0");
        run("the least that FAILED: the last row", "atlas: rule 99 from 7 7 to 5 5;rule 50 from 5 5 to 5 6; = 0", "cases 5 5 = 505",
            "cases 5 4 = 55555", "atlas: rule 30 from 5 5 to 6 6;rule 2 from 7 7 to 6 6; = 0", "cases 6 4 = 555555",
            "atlas: rule 2 from 7 7 to 6 6; = 0", "cases 6 4 = 555557", "cases 6 5 = 12");
        run("the most CHARGE of all CASES, below 0", "cases 7 5 = -10", "cases 7 1 = 0", "cases 7 4 = -1");
        run("FAILED are POSITIVE less COVERED", "atlas: piece 5 5 5 5;rule 2 from 5 5 to 7 7; = 0", "cases 5 1 = 38",
            "cases 5 2 = 6", "cases 5 3 = 32", "cases 5 4 = 55656");
    }

    private static void spotEdges() {
        String[] calls = {"spot # 0", "scaled # 1", "paint # 0", "wash #", "swap # 0", "chain # 0", "solve #", "free # 0",
            "note # 0"};
        for (String call : calls) {
            for (String spot : FAR) {
                run("no such SPOT, as everywhere", "atlas: " + T + " = 0", call.replace("#", spot) + " = NoSuch");
            }
            run("no such SPOT, behind the last one", "atlas: " + T + " = 0", call.replace("#", "4") + " = NoSuch");
            run("no such SPOT, behind the last of 12", "atlas: " + Texts.ICOSAHEDRON + " = 0",
                call.replace("#", "12") + " = NoSuch");
            run("no SPOTS", call.replace("#", "0") + " = NoSuch");
        }
        run("the last SPOT", "atlas: " + Texts.ICOSAHEDRON + " = 0", "spot 11 0 = 5", "scaled 11 1 = 10", "paint 11 0 = 1",
            "swap 11 1 = 1", "chain 11 0 = 2048", "solve 11 = 1", "wash 11 = 1", "free 11 0 = 0", "note 11 0 = 1");
        for (String what : FAR) {
            run("no such what", "atlas: " + T + " = 0", "spot 0 " + what + " = NoSuch");
        }
        run("what 6 is the last", "atlas: " + T + " = 0", "spot 0 6 = 0", "spot 0 7 = NoSuch", "spot 4 7 = NoSuch");
        for (int n = 3; n <= 9; n++) {
            run("0 DEGREE, 3 to 9; 1 NEIGHBOURS as bits", "atlas: " + Texts.tops(n) + " = 0", "spot 0 0 = " + n,
                "spot 0 1 = " + ((1 << n) - 1 << 2), "spot 1 1 = " + ((1 << n) - 1 << 2));
        }
        run("2 the COLOUR, NONE at first", "atlas: " + T + " = 0", "spot 3 2 = -1", "paint 3 0 = 1", "spot 3 2 = 0", "wash 3 = 0",
            "spot 3 2 = -1", "paint 3 3 = 1", "spot 3 2 = 3");
        run("3 FREE: all, some, none", "atlas: " + Texts.tops(4) + " = 0", "spot 0 3 = 15", "paint 2 0 = 1", "spot 0 3 = 14",
            "paint 3 1 = 2", "spot 0 3 = 12", "paint 4 2 = 3", "spot 0 3 = 8", "paint 5 3 = 4", "spot 0 3 = 0",
            "spot 1 3 = 0", "spot 2 3 = 5");
        run("3 FREE: of its NEIGHBOURS alone, not of itself", "atlas: " + T + " = 0", "paint 0 2 = 1", "spot 0 3 = 15",
            "spot 1 3 = 11");
        run("5 CHARGE behind by the ROW of DEGREES", "atlas: rule 29 from 3 3 to 4 4;" + STACKED + " = 0", "spot 5 5 = 1",
            "spot 1 5 = 1", "spot 0 5 = 49", "spot 2 5 = 10", "count 6 = 6", "tune 0 30 = 29", "spot 5 5 = 0", "count 6 = 4",
            "count 7 = 0x1d", "tune 0 31 = 30", "spot 5 5 = -1", "count 6 = 4");
        run("6 PIECES that it HOLDS, as bits", "atlas: piece 5;piece 6;piece 5 5 5 5 5 5;piece 5 6;" + Texts.ICOSAHEDRON + " = 0",
            "spot 0 6 = 5", "spot 11 6 = 5", "atlas: piece 5;piece 6;piece 7;piece 5 5;" + Texts.tops(6) + " = 0", "spot 0 6 = 2",
            "spot 2 6 = 0", "atlas: piece 7;" + Texts.tops(7) + " = 0", "spot 1 6 = 1", "atlas: piece 7;" + Texts.tops(8) + " = 0",
            "spot 1 6 = 0");
        // beside the edge from 0 to 2 lie 4, of degree 4, and 5, of degree 3; so it is with all from 4 to 5 there
        run("beside an edge lie those ahead of and behind v", "atlas: rule 7 from 5 5 to 5 5 both 3 3;" + STACKED + " = 0",
            "spot 2 5 = 10", "spot 3 5 = 10", "atlas: rule 7 from 4 4 to 5 5 both 3 3;" + STACKED + " = 0", "spot 2 5 = 10",
            "spot 0 5 = 20", "atlas: rule 7 from 4 4 to 5 5 with 3 3;" + STACKED + " = 0", "spot 2 5 = 24", "spot 3 5 = 24",
            "spot 0 5 = 6", "spot 4 5 = 6", "atlas: rule 7 from 4 4 to 5 5 both 4 5;" + STACKED + " = 0", "spot 2 5 = 10",
            "spot 0 5 = 20", "atlas: rule 7 from 4 4 to 5 5 both 3 4;" + STACKED + " = 0", "spot 2 5 = 24", "spot 0 5 = 6");
    }

    private static void scaling() {
        String one = "atlas: rule 29 from 3 3 to 4 4;" + STACKED + " = 0";
        run("1 by a factor: all ints", one, "scaled 5 0x7fffffff = 0x7fffffff", "scaled 5 0x80000000 = 0x80000000",
            "scaled 5 0 = 0", "scaled 5 1 = 1", "scaled 5 -1 = -1");
        run("0 by a factor", one, "tune 0 30 = 29", "scaled 5 0x7fffffff = 0", "scaled 5 0x80000000 = 0");
        run("-1 by a factor: the least int's is none", one, "tune 0 31 = 29", "scaled 5 0x80000001 = 0x7fffffff",
            "scaled 5 0x80000000 = Arithmetic", "scaled 5 0x7fffffff = 0x80000001");
        run("2 by a factor", one, "tune 0 28 = 29", "scaled 5 0x3fffffff = 0x7ffffffe", "scaled 5 0x40000000 = Arithmetic",
            "scaled 5 0xc0000000 = 0x80000000", "scaled 5 0xbfffffff = Arithmetic", "scaled 5 0x80000000 = Arithmetic");
        run("-2 by a factor", one, "tune 0 32 = 29", "scaled 5 0x40000000 = 0x80000000", "scaled 5 0x40000001 = Arithmetic",
            "scaled 5 0xc0000000 = Arithmetic", "scaled 5 0xc0000001 = 0x7ffffffe");
        // 30 by 143165577 is 14 more than 2 to the 32
        run("no int holds it, though it wraps round to one", "atlas: " + T + " = 0", "scaled 0 143165577 = Arithmetic",
            "scaled 0 -143165577 = Arithmetic", "scaled 0 71582788 = 2147483640", "scaled 0 71582789 = Arithmetic",
            "scaled 0 -71582788 = -2147483640", "scaled 0 -71582789 = Arithmetic");
        run("ArithmeticException behind NoSuchElementException", "atlas: " + T + " = 0", "scaled 4 0x7fffffff = NoSuch",
            "scaled -1 0x80000000 = NoSuch", "scaled 3 0x7fffffff = Arithmetic");
    }

    private static void ruleEdges() {
        String[] calls = {"rule # 0", "tune # 5"};
        for (String call : calls) {
            for (String rule : FAR) {
                run("no such RULE", "atlas: rule 7 from 5 5 to 6 6; = 0", call.replace("#", rule) + " = NoSuch");
            }
            for (int many = 0; many <= 6; many++) {
                String text = "rule 7 from 5 5 to 6 6;".repeat(many);
                run("no such RULE, behind the last one", "atlas: " + text + " = 0", call.replace("#", "" + many) + " = NoSuch");
                if (many > 0) {
                    run("the last RULE", "atlas: " + text + " = 0", call.replace("#", "" + (many - 1)) + " = 7");
                }
            }
        }
        for (String what : FAR) {
            run("no such what", "atlas: rule 7 from 5 5 to 6 6; = 0", "rule 0 " + what + " = NoSuch");
        }
        run("what 7 is the last", "atlas: rule 7 from 5 5 to 6 6 both 3 9; = 0", "rule 0 7 = 2", "rule 0 8 = NoSuch");
        run("beside: 0 without", "atlas: rule 99 from 3 4 to 5 6; = 0", "rule 0 0 = 99", "rule 0 1 = 3", "rule 0 2 = 4",
            "rule 0 3 = 5", "rule 0 4 = 6", "rule 0 5 = 0", "rule 0 6 = 0", "rule 0 7 = 0");
        run("1 'with', 2 'both'", "atlas: rule 1 from 9 9 to 3 3 with 7 8;rule 2 from 3 9 to 3 9 both 9 9; = 0", "rule 0 5 = 7",
            "rule 0 6 = 8", "rule 0 7 = 1", "rule 1 5 = 9", "rule 1 6 = 9", "rule 1 7 = 2");
        run("AMOUNT as it is TUNED", "atlas: rule 1 from 9 9 to 3 3; = 0", "tune 0 99 = 1", "rule 0 0 = 99", "undo = 0",
            "rule 0 0 = 1");
    }

    private static void nothingChanges() {
        String[] rows = {"atlas: piece 5 5 5 5;rule 7 from 4 4 to 5 5;" + Texts.tops(5) + " = 0", "paint 0 0 = 1", "note 0 45 = 1"};
        String[] calls = {"sends 5 5 5 5", "sends 5 5 5 2 = Illegal", "hub 5 57555 0", "hub 7 7555777 1", "hub 5 5 0 = Illegal",
            "hub 5 55555 2 = NoSuch", "cases 6 1", "cases 7 4", "cases 8 0 = Illegal", "cases 5 6 = NoSuch", "spot 6 5",
            "spot 6 6", "spot 7 0 = NoSuch", "scaled 0 5 = 225", "scaled 0 0x7fffffff = Arithmetic", "rule 0 3", "rule 1 0 = NoSuch"};
        for (String call : calls) {
            Script.changes(CHECK, "asking changes nothing", rows, call);
        }
    }

    public static void main(String[] args) {
        ahead();
        sending();
        hubEdges();
        behind();
        holding();
        caseEdges();
        spotEdges();
        scaling();
        ruleEdges();
        nothingChanges();
        CHECK.end();
    }
}
