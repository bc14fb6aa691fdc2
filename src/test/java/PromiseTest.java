/** One method for each promise of the document: ordinary inputs, the edges that it names, wrong inputs. */
public final class PromiseTest extends Checks {
    public static void main(String[] args) {
        promise1();
        promise2();
        promise3();
        promise4();
        promise5();
        promise6();
        promise7();
        promise7Faults();
        promise7Limits();
        promise8();
        promise9();
        promise10();
        promise11();
        promise12();
        promise13();
        promise14();
        promise15();
        promise16();
        promise17();
        promise18();
        promise19();
        promise20();
        promise21();
        promise22();
        promise23();
        promise24();
        promise25();
        promise26();
        promise27();
        promise28();
        promise29();
        promise30();
        finish();
    }

    private static void promise1() {
        about("promise 1");
        HalfGames x = new HalfGames();
        for (int what = 0; what <= 6; what++) {
            due("count(" + what + ")", x.count(what), 0);
        }
        for (int row = 0; row < 8; row++) {
            due("drop(" + row + ")", new HalfGames().drop(row), NULL);
        }
        due("status()", x.status(), 0);
        due("fault()", x.fault(), 0);
        due("trace(0)", x.trace(0), NONE);
        due("value()", x.value(), STATE);
        due("place(0, 0)", x.place(0, 0), BAD);
        due("forgets(0)", x.forgets(0), 0);
        due("forgets(1)", x.forgets(1), 0);
        due("NONE", HalfGames.NONE, -1000000);
        due("NOT", HalfGames.NOT, -9000000000000000000L);
    }

    private static void promise2() {
        about("promise 2");
        HalfGames x = new HalfGames();
        due("row(0, 0, 0)", x.row(0, 0, 0), 0);
        due("row(7, 2, 40)", x.row(7, 2, 40), 40);
        due("count(0)", x.count(0), 2);
        due("set(7, 39, 5)", x.set(7, 39, 5), 5);
        due("row(7, 1, 40)", x.row(7, 1, 40), 40);
        due("row(6, 1, 40)", x.row(6, 1, 40), 40);
        // All ITEMS are 0 again: a PLAN of them has nothing together.
        read(x, "one 0 2 end 1 end 2;");
        due("mix(0, 7, 38)", x.mix(0, 7, 38), BAD);
        due("row(7, 0, -1)", x.row(7, 0, -1), SIZE);
        due("drop(7), as it was", x.drop(7), 40);
        due("row(0, 0, LEAST)", x.row(0, 0, LEAST), SIZE);
        due("row(-1, 0, 1)", x.row(-1, 0, 1), BAD);
        due("row(8, 0, 1)", x.row(8, 0, 1), BAD);
        due("row(0, -1, 1)", x.row(0, -1, 1), BAD);
        due("row(0, 3, 1)", x.row(0, 3, 1), BAD);
        due("row(0, 0, 41)", x.row(0, 0, 41), BAD);
        due("row(0, 0, MOST)", x.row(0, 0, MOST), BAD);
        due("row(8, 0, -1), BAD ahead of SIZE", x.row(8, 0, -1), BAD);
        due("row(0, 3, -1), BAD ahead of SIZE", x.row(0, 3, -1), BAD);
    }

    private static void promise3() {
        about("promise 3");
        HalfGames x = new HalfGames();
        x.row(0, 0, 2);
        x.row(1, 1, 2);
        x.row(2, 2, 2);
        due("bytes 127", x.set(0, 1, 127), 127);
        due("bytes 128", x.set(0, 1, 128), -128);
        due("bytes 255", x.set(0, 1, 255), -1);
        due("bytes 256", x.set(0, 1, 256), 0);
        due("bytes -129", x.set(0, 1, -129), 127);
        due("shorts 32767", x.set(1, 0, 32767), 32767);
        due("shorts 32768", x.set(1, 0, 32768), -32768);
        due("shorts 65541", x.set(1, 0, 65541), 5);
        due("ints MOST", x.set(2, 0, MOST), MOST);
        due("ints LEAST", x.set(2, 0, LEAST), LEAST);
        due("set(-1, 0, 0)", x.set(-1, 0, 0), BAD);
        due("set(8, 0, 0)", x.set(8, 0, 0), BAD);
        due("set(3, 0, 0)", x.set(3, 0, 0), NULL);
        due("set(3, -1, 0)", x.set(3, -1, 0), NULL);
        due("set(0, -1, 0)", x.set(0, -1, 0), PLACE);
        due("set(0, 2, 0)", x.set(0, 2, 0), PLACE);
        due("set(0, MOST, 0)", x.set(0, MOST, 0), PLACE);
        due("set(0, LEAST, 0)", x.set(0, LEAST, 0), PLACE);
    }

    private static void promise4() {
        about("promise 4");
        HalfGames x = with("one 0 3 end 1 end 2 end 3;");
        x.row(0, 0, 5);
        int[] items = {4, 5, 3, 9, 9};
        for (int i = 0; i < 5; i++) {
            x.set(0, i, items[i]);
        }
        due("copy onto itself, upward", x.copy(0, 0, 0, 1, 4), 4);
        due("mix(0, 0, 1): 4 5 3", x.mix(0, 0, 1), 1);
        due("share(0, 1)", x.share(0, 1), 5);
        due("copy onto itself, downward", x.copy(0, 1, 0, 0, 4), 4);
        due("mix(0, 0, 0): 4 5 3", x.mix(0, 0, 0), 1);
        due("share(0, 2)", x.share(0, 2), 3);
        x.row(1, 0, 3);
        due("copy(0, 0, 1, 0, 3)", x.copy(0, 0, 1, 0, 3), 3);
        due("mix(0, 1, 0)", x.mix(0, 1, 0), 1);
        due("copy of none at the ends", x.copy(0, 5, 1, 3, 0), 0);
        due("copy(0, 6, 1, 0, 0)", x.copy(0, 6, 1, 0, 0), PLACE);
        due("copy(0, 0, 1, 4, 0)", x.copy(0, 0, 1, 4, 0), PLACE);
        due("copy(0, 0, 1, 0, 4)", x.copy(0, 0, 1, 0, 4), PLACE);
        due("copy(1, 1, 0, 0, 3)", x.copy(1, 1, 0, 0, 3), PLACE);
        due("copy(0, -1, 1, 0, 1)", x.copy(0, -1, 1, 0, 1), PLACE);
        due("copy(0, 0, 1, -1, 1)", x.copy(0, 0, 1, -1, 1), PLACE);
        due("copy(0, 0, 1, 0, -1)", x.copy(0, 0, 1, 0, -1), PLACE);
        due("copy(0, MOST, 1, 0, MOST)", x.copy(0, MOST, 1, 0, MOST), PLACE);
        due("copy(0, 1, 1, 1, MOST)", x.copy(0, 1, 1, 1, MOST), PLACE);
        x.row(2, 1, 3);
        due("copy(0, 0, 2, 0, 1)", x.copy(0, 0, 2, 0, 1), STORE);
        due("STORE ahead of PLACE", x.copy(0, 0, 2, 0, -1), STORE);
        due("STORE of none", x.copy(0, 0, 2, 0, 0), STORE);
        due("NULL of a", x.copy(3, 0, 0, 0, 1), NULL);
        due("NULL of b", x.copy(0, 0, 3, 0, 1), NULL);
        due("NULL ahead of PLACE", x.copy(0, -1, 3, 0, -1), NULL);
        due("copy(-1, 0, 0, 0, 0)", x.copy(-1, 0, 0, 0, 0), BAD);
        due("copy(0, 0, 8, 0, 0)", x.copy(0, 0, 8, 0, 0), BAD);
        due("BAD ahead of NULL", x.copy(3, 0, 8, 0, 0), BAD);
    }

    private static void promise5() {
        about("promise 5");
        HalfGames x = new HalfGames();
        x.row(4, 2, 17);
        due("drop(4)", x.drop(4), 17);
        due("count(0)", x.count(0), 0);
        due("drop(4) again", x.drop(4), NULL);
        due("set(4, 0, 0)", x.set(4, 0, 0), NULL);
        x.row(4, 2, 0);
        due("drop(4) of none", x.drop(4), 0);
        due("drop(-1)", x.drop(-1), BAD);
        due("drop(8)", x.drop(8), BAD);
    }

    private static void promise6() {
        about("promise 6");
        HalfGames x = new HalfGames();
        due("feed(0, 0)", x.feed(0, 0), BAD);
        due("feed(0, 9)", x.feed(0, 9), BAD);
        due("feed(0, -1)", x.feed(0, -1), BAD);
        due("feed(0, MOST)", x.feed(0, MOST), BAD);
        // Of w only the lowest bytes come: "end 7;" behind what does not count.
        due("feed", x.feed(0x4141656e6420373bL, 6), 6);
        due("count(6)", x.count(6), 6);
        due("game()", x.game(), 1);
        due("place(0, 1)", x.place(0, 1), 7);
        long blanks = 0x2020202020202020L;
        for (int k = 1; k <= 74; k++) {
            due("feed of blanks", x.feed(blanks, 8), 8 * k);
        }
        due("feed up to 599", x.feed(blanks, 7), 599);
        due("FULL", x.feed(blanks, 2), FULL);
        due("BAD ahead of FULL", x.feed(blanks, 9), BAD);
        due("none came", x.count(6), 599);
        due("feed up to 600", x.feed(blanks, 1), 600);
        due("FULL by one", x.feed(blanks, 1), FULL);
        due("game() of blanks", x.game(), HalfGames.NOT - 700);
        due("fault()", x.fault(), 1);
    }

    private static void promise7() {
        about("promise 7");
        dueRead("end 0;", 1);
        dueRead("end 99;", 1);
        dueRead(" \n end\n07 ;\n\n ", 1);
        dueRead("end7;", 1);
        dueRead("deal 2 6end 1 6end 2;", 3);
        dueRead("deal 2 1 end 1 11 end 2;", 3);
        dueRead("deal 4 3 end 1 3 end 2 3 end 3 3 end 4;", 5);
        dueRead("one 9 3 end 1 end 2 end 3;", 4);
        dueRead("one 0 2 two 1 3 end 1 end 2 end 3 two 1 3 end 4 end 5 end 6;", 9);
        HalfGames x = with(CARDS);
        mix(x, 1, 4, 8);
        x.rounds(3);
        due("a FAULT", read(x, "end 7"), HalfGames.NOT - 105);
        due("the GAME stays", x.count(1), 11);
        due("the PLAN stays", x.share(1, 1), 8);
        due("the ROUNDS stay", x.count(5), 3);
        due("another GAME", read(x, CARDS), 11);
        due("its PLAN is new", x.share(1, 1), 0);
        due("its ROUNDS are new", x.count(5), 0);
        due("a smaller GAME", read(x, "two 1 3 end 1 end 2 end 3;"), 4);
        due("SETS of the one before are gone", x.seen(0, 2), 0);
        due("SET 1 is of two now", x.seen(1, 0), 1);
        due("place(4, 0)", x.place(4, 0), BAD);
        // A text that fails behind its SETS must leave none of them.
        due("a FAULT behind SETS", read(x, "one 1 2 one 2 2 end 1 end 2 !"), HalfGames.NOT - 128);
        due("SET 1 stays", x.seen(1, 0), 1);
        due("SET 2 is none", x.seen(2, 0), NONE);
        due("a text with the same SETS", read(x, "two 2 3 end 1 end 2 end 3;"), 4);
    }

    private static void promise7Faults() {
        about("promise 7");
        dueFault("", 0, 1);
        dueFault("  ", 2, 1);
        dueFault(";", 0, 1);
        dueFault("5;", 0, 1);
        dueFault(" en 5;", 1, 1);
        dueFault("endd 5;", 0, 1);
        dueFault("END 5;", 0, 1);
        dueFault("end;", 3, 1);
        dueFault("end end 5;", 4, 1);
        dueFault("end 5", 5, 1);
        dueFault("end 5 ", 6, 1);
        dueFault("end 5;;", 6, 1);
        dueFault("end 5; end 5;", 7, 1);
        dueFault("end 5 5;", 6, 1);
        dueFault("end 000;", 4, 1);
        dueFault("end 12345678901234567890;", 4, 1);
        dueFault("end -5;", 4, 1);
        dueFault("end\t5;", 3, 1);
        dueFault("end\r5;", 3, 1);
        dueFault("end " + (char) 233 + ";", 4, 1);
        dueFault((char) 0 + "end 5;", 0, 1);
        dueFault("deal;", 4, 1);
        dueFault("deal 1 12 end 1;", 5, 2);
        dueFault("deal 5 1 end 1;", 5, 2);
        dueFault("deal 0;", 5, 2);
        dueFault("deal 2 end 1;", 7, 1);
        dueFault("deal 2 0 end 1 12 end 1;", 7, 2);
        dueFault("deal 2 12 end 1;", 7, 2);
        dueFault("deal 2 6 end 1 7 end 1;", 15, 2);
        dueFault("deal 2 6 end 1 5 end 1;", 15, 2);
        dueFault("deal 3 6 end 1 6 end 1 1 end 1;", 23, 2);
        dueFault("deal 2 6 end 1 end 1;", 15, 1);
        dueFault("deal 2 6 6 end 1;", 9, 1);
        dueFault("one;", 3, 1);
        dueFault("one 10 2 end 1 end 2;", 4, 2);
        dueFault("one 0;", 5, 1);
        dueFault("one 0 1 end 1;", 6, 2);
        dueFault("two 0 4 end 1;", 6, 2);
        dueFault("one 0 2 two 0 2 end 1 end 1 end 2;", 12, 2);
        dueFault("two 0 2 one 0 2 end 1 end 1 end 2;", 12, 2);
        // A SET of the other player is told at the SET, though how many is wrong, too.
        dueFault("one 0 2 two 0 3 end 1 end 1 end 2;", 12, 2);
        dueFault("one 0 2 one 0 3 end 1 end 1 end 1 end 2;", 14, 2);
        dueFault("one 0 2 end 1;", 13, 1);
        dueFault("two 1 2 end 1 end 2 end 3;", 20, 1);
        dueFault("two 1 2 end 1 end 2", 19, 1);
    }

    private static void promise7Limits() {
        about("promise 7");
        String down = "";
        for (int k = 0; k < 8; k++) {
            down += "one " + k + " 2 end 1 ";
        }
        dueRead(down + "end 9;", 17);
        dueFault(down + "one 8 2 end 1 end 9;", down.length(), 3);
        dueFault(down + "two 8 2 end 1 end 9;", down.length(), 3);
        dueFault(down + "deal 2 6 end 1 6 end 9;", down.length(), 3);
        dueFault(down + "7;", down.length(), 1);
        dueFault(down + "deals;", down.length(), 1);
        // 1 + 3 + 9 + 27 PLACES above, as many as it takes to come to 60 and 61.
        String wide = widely(2);
        dueRead(wide + ";", 60);
        String wider = widely(3);
        dueFault(wider + ";", sixtyFirst(wider), 3);
        dueFault(wide + "end 1;", wide.length(), 1);
    }

    /** A GAME of 40 PLACES whose last ones hold more: 10 times 2 more, or 9 of 2 and one of 3. */
    private static String widely(int last) {
        String text = "one 0 3";
        int leaf = 0;
        for (int a = 0; a < 3; a++) {
            text += " two 1 3";
            for (int b = 0; b < 3; b++) {
                text += " one 2 3";
                for (int c = 0; c < 3; c++) {
                    leaf++;
                    String two = "two 3 2 end 1 end 2";
                    String three = "two 4 3 end 1 end 2 end 3";
                    text += " " + (leaf < 10 ? two : leaf > 10 ? "end 1" : last == 2 ? two : three);
                }
            }
        }
        return text;
    }

    private static int sixtyFirst(String text) {
        int at = 0;
        int words = 0;
        while (at < text.length()) {
            if (Character.isLetter(text.charAt(at)) && (at == 0 || !Character.isLetter(text.charAt(at - 1)))) {
                words++;
                if (words == 61) {
                    return at;
                }
            }
            at++;
        }
        return -1;
    }

    private static void promise8() {
        about("promise 8");
        HalfGames x = new HalfGames();
        due("fault() before one", x.fault(), 0);
        read(x, "end 5;");
        due("fault() behind a GAME", x.fault(), 0);
        read(x, "deal 1;");
        due("fault() 2", x.fault(), 2);
        read(x, "end 5;");
        due("fault() stays", x.fault(), 2);
        read(x, "deal;");
        due("fault() 1", x.fault(), 1);
        read(x, "one 0 2 ".repeat(9));
        due("fault() 3", x.fault(), 3);
    }

    private static void promise9() {
        about("promise 9");
        HalfGames x = with(FOUR);
        long[][] want = {
            {1, NONE, NONE, 4, NONE, 0}, {0, 1, NONE, 0, 0, 1}, {2, NONE, 0, 2, 0, 1}, {0, 5, NONE, 0, 2, 2},
            {0, 6, NONE, 0, 2, 2}, {2, NONE, 0, 2, 0, 1}, {0, 9, NONE, 0, 5, 2}, {0, 2, NONE, 0, 5, 2},
            {3, NONE, 1, 2, 0, 1}, {0, 0, NONE, 0, 8, 2}, {0, 99, NONE, 0, 8, 2}};
        for (int place = 0; place < want.length; place++) {
            for (int what = 0; what < 6; what++) {
                due("place(" + place + ", " + what + ")", x.place(place, what), want[place][what]);
            }
        }
        due("place(11, 0)", x.place(11, 0), BAD);
        due("place(-1, 0)", x.place(-1, 0), BAD);
        due("place(0, 6)", x.place(0, 6), BAD);
        due("place(0, -1)", x.place(0, -1), BAD);
        due("place(MOST, LEAST)", x.place(MOST, LEAST), BAD);
    }

    private static void promise10() {
        about("promise 10");
        HalfGames x = with("one 9 3 two 3 2 end 1 end 2 two 3 2 end 1 end 2 end 0;");
        due("seen(9, 0)", x.seen(9, 0), 0);
        due("seen(9, 1)", x.seen(9, 1), 3);
        due("seen(9, 2)", x.seen(9, 2), 1);
        due("seen(3, 0)", x.seen(3, 0), 1);
        due("seen(3, 1)", x.seen(3, 1), 2);
        due("seen(3, 2)", x.seen(3, 2), 2);
        due("seen(0, 0)", x.seen(0, 0), NONE);
        due("seen(0, 1)", x.seen(0, 1), 0);
        due("seen(0, 2)", x.seen(0, 2), 0);
        due("seen(10, 0)", x.seen(10, 0), BAD);
        due("seen(-1, 0)", x.seen(-1, 0), BAD);
        due("seen(9, 3)", x.seen(9, 3), BAD);
        due("seen(9, -1)", x.seen(9, -1), BAD);
    }

    private static void promise11() {
        about("promise 11");
        HalfGames x = with(FORGOTTEN);
        due("forgets(0)", x.forgets(0), 1);
        due("forgets(1)", x.forgets(1), 0);
        due("forgets(2)", x.forgets(2), BAD);
        due("forgets(-1)", x.forgets(-1), BAD);
        read(x, "end 1;");
        due("forgets(0) of another GAME", x.forgets(0), 0);
        read(x, "two 0 2 two 0 2 end 1 end 2 end 3;");
        due("a SET below itself", x.forgets(1), 1);
        due("two GAMES behind FORGOTTEN", x.forgets(0), 0);
        read(x, "one 0 2 two 1 2 end 1 end 2 two 1 2 end 3 end 4;");
        due("acts of the other do not count", x.forgets(1), 0);
        read(x, "end 1;");
        due("two GAMES behind", x.forgets(1), 0);
        read(x, "deal 2 6 one 0 2 one 2 2 end 1 end 2 end 3 6 one 1 2 one 2 2 end 1 end 2 end 3;");
        due("unlike SETS, the same act", x.forgets(0), 1);
        read(x, "deal 2 6 one 0 2 one 2 2 end 1 end 2 end 3 6 one 0 2 one 2 2 end 1 end 2 end 3;");
        due("like SETS and acts", x.forgets(0), 0);
        read(x, "deal 2 6 one 0 2 one 2 2 end 1 end 2 end 3 6 one 2 2 end 1 end 2;");
        due("by a SET, by none", x.forgets(0), 1);
        read(x, "deal 2 6 two 0 2 two 1 2 two 2 2 end 1 end 2 end 3 end 4"
                + " 6 two 1 2 two 0 2 two 2 2 end 1 end 2 end 3 end 4;");
        due("the same SETS in another order", x.forgets(1), 1);
    }

    private static void promise12() {
        about("promise 12");
        HalfGames x = with("one 4 3 end 10 end 20 end 30;");
        due("NULL", x.mix(4, 0, 0), NULL);
        x.row(0, 2, 4);
        due("PLACE", x.mix(4, 0, 2), PLACE);
        due("PLACE below 0", x.mix(4, 0, -1), PLACE);
        due("PLACE far off", x.mix(4, 0, MOST), PLACE);
        x.set(0, 1, 2);
        x.set(0, 2, 3);
        x.set(0, 3, 7);
        due("mix(4, 0, 1)", x.mix(4, 0, 1), 1);
        due("share(4, 0)", x.share(4, 0), 2);
        due("share(4, 1)", x.share(4, 1), 3);
        due("share(4, 2)", x.share(4, 2), 7);
        due("not 12 together", x.mix(4, 0, 0), BAD);
        x.set(0, 1, 13);
        x.set(0, 3, -4);
        due("ITEMS beyond 0 to 12, 12 together", x.mix(4, 0, 1), BAD);
        x.set(0, 1, -1);
        x.set(0, 2, 12);
        x.set(0, 3, 1);
        due("an ITEM below 0, 12 together", x.mix(4, 0, 1), BAD);
        x.set(0, 1, MOST);
        x.set(0, 2, MOST);
        x.set(0, 3, 14);
        due("ITEMS that run over to 12", x.mix(4, 0, 1), BAD);
        due("share(4, 2), as it was", x.share(4, 2), 7);
        due("PLACE ahead of a wrong ITEM", x.mix(4, 0, 3), PLACE);
        due("mix(0, 0, 0): no PLACES", x.mix(0, 0, 0), BAD);
        due("mix(10, 0, 0)", x.mix(10, 0, 0), BAD);
        due("mix(-1, 0, 0)", x.mix(-1, 0, 0), BAD);
        due("mix(4, 8, 0)", x.mix(4, 8, 0), BAD);
        due("mix(4, -1, 0)", x.mix(4, -1, 0), BAD);
        due("BAD ahead of NULL", x.mix(0, 1, 0), BAD);
        x.set(0, 0, 0);
        x.set(0, 1, 12);
        x.set(0, 2, 0);
        due("all to act 1", x.mix(4, 0, 0), 1);
        due("value()", x.value(), 20 * WHOLE);
    }

    private static void promise13() {
        about("promise 13");
        HalfGames x = with("two 4 2 end 10 end 20;");
        due("share(4, 0)", x.share(4, 0), 12);
        due("share(4, 1)", x.share(4, 1), 0);
        due("share(4, 2)", x.share(4, 2), BAD);
        due("share(4, -1)", x.share(4, -1), BAD);
        due("share(3, 0)", x.share(3, 0), BAD);
        due("share(10, 0)", x.share(10, 0), BAD);
        due("share(-1, 0)", x.share(-1, 0), BAD);
    }

    private static void promise14() {
        about("promise 14");
        due("no GAME", new HalfGames().value(), STATE);
        due("end 99", with("end 99;").value(), 99 * WHOLE);
        HalfGames x = with("deal 2 5 end 10 7 one 0 2 end 20 end 8;");
        due("by act 0", x.value(), (5 * 10 + 7 * 20) * (WHOLE / 12));
        mix(x, 0, 1, 11);
        due("mixed", x.value(), 5 * 10 * (WHOLE / 12) + 7 * (1 * 20 + 11 * 8) * (WHOLE / 144));
        due("of one who forgets, too", with(FORGOTTEN).value(), WHOLE);
    }

    private static void promise15() {
        about("promise 15");
        HalfGames x = with("deal 2 5 end 10 7 one 0 2 two 1 2 end 20 end 8 end 9;");
        mix(x, 0, 1, 11);
        mix(x, 1, 2, 10);
        long part = WHOLE / 12 / 12 / 12;
        long[][] want = {{1728, 1728, 1728}, {720, 720, 720}, {1008, 1008, 1008}, {84, 1008, 84},
            {14, 168, 84}, {70, 840, 84}, {924, 1008, 924}};
        for (int place = 0; place < want.length; place++) {
            for (int what = 0; what < 3; what++) {
                due("reach(" + place + ", " + what + ")", x.reach(place, what), want[place][what] * part);
            }
        }
        due("reach(7, 0)", x.reach(7, 0), BAD);
        due("reach(-1, 0)", x.reach(-1, 0), BAD);
        due("reach(0, 3)", x.reach(0, 3), BAD);
        due("reach(0, -1)", x.reach(0, -1), BAD);
        String text = "";
        for (int k = 0; k < 8; k++) {
            text += "deal 2 11 end 0 1 ";
        }
        due("by 8 ways", with(text + "end 3;").reach(16, 0), 1);
    }

    private static void promise16() {
        about("promise 16");
        HalfGames x = new HalfGames();
        due("no GAME", x.best(0, 0), STATE);
        due("BAD ahead of STATE", x.best(2, 0), BAD);
        read(x, CARDS);
        mix(x, 1, 6, 6);
        mix(x, 2, 6, 6);
        // One, dealt high: 65 or 55; dealt low: 45 or 45. Two: (60, 70) by 6, (60, 30) by 3, and 45 by 3.
        long half = WHOLE / 2;
        due("best(0, 0)", x.best(0, 0), (65 + 45) * half);
        due("value()", x.value(), (65 + 45) * half);
        due("best(0, 1)", x.best(0, 1), 0);
        due("best(1, 0)", x.best(1, 0), 70 * half + 15 * half + 45 * half / 2);
        due("best(1, 1)", x.best(1, 1), 55 * WHOLE - (70 * half + 15 * half + 45 * half / 2));
        due("best(0, 2) is best(1, 1)", x.best(0, 2), x.best(1, 1));
        due("best(1, 2) is best(0, 1)", x.best(1, 2), 0);
        mix(x, 0, 0, 12);
        due("GAIN of one", x.best(0, 1), 10 * half);
        due("OPEN of two", x.best(1, 2), 10 * half);
        due("best(-1, 0)", x.best(-1, 0), BAD);
        due("best(0, -1)", x.best(0, -1), BAD);
        due("best(1, 3)", x.best(1, 3), BAD);
        read(x, FORGOTTEN);
        due("best(0, 0), forgets", x.best(0, 0), STATE);
        due("best(0, 1), forgets", x.best(0, 1), STATE);
        due("best(0, 2), two answers", x.best(0, 2), 0);
        due("best(1, 0)", x.best(1, 0), WHOLE);
        due("best(1, 2), one answers", x.best(1, 2), STATE);
    }

    private static void promise17() {
        about("promise 17");
        HalfGames x = with(CARDS);
        mix(x, 1, 0, 12);
        // Two meets the high card alone: 60 is less than 70; one gets 60 by staying, against 55 and 45.
        due("answer(2)", x.answer(2), 0);
        due("answer(0)", x.answer(0), 0);
        due("answer(1)", x.answer(1), 0);
        mix(x, 2, 0, 12);
        due("answer(1), 30 against 45", x.answer(1), 1);
        mix(x, 0, 0, 12);
        mix(x, 1, 12, 0);
        due("answer(2), the low card alone", x.answer(2), 1);
        mix(x, 1, 0, 12);
        due("answer(2), none comes there: the least act", x.answer(2), 0);
        due("answer(3)", x.answer(3), BAD);
        due("answer(10)", x.answer(10), BAD);
        due("answer(-1)", x.answer(-1), BAD);
        read(x, "two 7 3 end 5 end 4 end 4;");
        due("of several the least act", x.answer(7), 1);
        read(x, "one 7 3 end 5 end 4 end 5;");
        due("of several the least act, of one", x.answer(7), 0);
        read(x, FORGOTTEN);
        due("forgets", x.answer(1), STATE);
        due("BAD ahead of STATE", x.answer(2), BAD);
    }

    private static void promise18() {
        about("promise 18");
        HalfGames x = with(CARDS);
        mix(x, 0, 3, 9);
        due("belief(2, 0)", x.belief(2, 0), WHOLE / 8);
        due("belief(2, 1)", x.belief(2, 1), WHOLE / 8 + WHOLE / 2);
        due("belief(7, 0)", x.belief(7, 0), WHOLE / 2);
        due("belief(7, 1)", x.belief(7, 1), WHOLE / 8 + WHOLE / 2);
        due("belief(1, 1)", x.belief(1, 1), WHOLE / 2);
        due("of a deal", x.belief(0, 0), BAD);
        due("of an end", x.belief(3, 1), BAD);
        due("belief(2, 2)", x.belief(2, 2), BAD);
        due("belief(2, -1)", x.belief(2, -1), BAD);
        due("belief(11, 0)", x.belief(11, 0), BAD);
        due("belief(-1, 0)", x.belief(-1, 0), BAD);
    }

    private static void promise19() {
        about("promise 19");
        HalfGames x = with(CARDS);
        // Two, seeing: 60 and 30 in place of the least of (60, 60) and (70, 30).
        due("seeing(2)", x.seeing(2), 100 * (WHOLE / 2) - 90 * (WHOLE / 2));
        due("seeing(0)", x.seeing(0), 0);
        due("seeing(3)", x.seeing(3), BAD);
        due("seeing(10)", x.seeing(10), BAD);
        due("seeing(-1)", x.seeing(-1), BAD);
        read(x, FOUR);
        due("of one", x.seeing(0), (6 + 9 - 5 - 9) * (WHOLE / 4));
        // What is seen at SET 0 is known at SET 1 still.
        read(x, "deal 2 6 one 0 2 two 5 2 one 1 2 end 10 end 0 end 0 end 0"
                + " 6 one 0 2 two 5 2 one 1 2 end 0 end 10 end 0 end 0;");
        due("best(0, 0)", x.best(0, 0), 10 * (WHOLE / 2));
        due("behind it still", x.seeing(0), 10 * (WHOLE / 2));
        due("at SET 1 itself", x.seeing(1), 10 * (WHOLE / 2));
        // What comes by no PLACE of SET 1 stays of one SET.
        read(x, "deal 3 4 one 0 2 end 9 end 0 4 one 0 2 end 0 end 8 4 one 1 2 end 1 end 0;");
        due("by none", x.seeing(1), 0);
        due("SET 0 itself", x.seeing(0), 8 * (WHOLE / 3));
        read(x, FORGOTTEN);
        due("forgets", x.seeing(1), STATE);
        due("BAD ahead of STATE", x.seeing(2), BAD);
    }

    private static void promise20() {
        about("promise 20");
        HalfGames x = with("one 0 3 end 10 end 30 end 20;");
        due("fewer(0, 0)", x.fewer(0, 0), 30 * WHOLE);
        due("fewer(0, 1)", x.fewer(0, 1), 20 * WHOLE);
        due("fewer(0, 2)", x.fewer(0, 2), 30 * WHOLE);
        x.fewer(0, 1);
        due("nothing is barred behind it", x.best(0, 0), 30 * WHOLE);
        due("nor in the answer", x.answer(0), 1);
        due("fewer(0, 3)", x.fewer(0, 3), BAD);
        due("fewer(0, -1)", x.fewer(0, -1), BAD);
        due("fewer(1, 0)", x.fewer(1, 0), BAD);
        due("fewer(10, 0)", x.fewer(10, 0), BAD);
        due("fewer(-1, 0)", x.fewer(-1, 0), BAD);
        read(x, CARDS);
        due("of two, act 1", x.fewer(2, 1), 60 * WHOLE);
        due("of two, act 0", x.fewer(2, 0), 50 * WHOLE);
        read(x, FORGOTTEN);
        due("forgets", x.fewer(1, 0), STATE);
        due("BAD ahead of STATE", x.fewer(1, 2), BAD);
    }

    private static void promise21() {
        about("promise 21");
        HalfGames x = new HalfGames();
        due("no GAME", x.rounds(1), STATE);
        due("BAD ahead of STATE", x.rounds(0), BAD);
        read(x, PENNIES);
        due("rounds(61)", x.rounds(61), BAD);
        due("rounds(-1)", x.rounds(-1), BAD);
        due("rounds(1)", x.rounds(1), 1);
        due("rounds(2)", x.rounds(2), 3);
        due("rounds(60)", x.rounds(60), 60);
        due("rounds(60) again", x.rounds(60), 60);
        due("rounds(1) again", x.rounds(1), 60);
        read(x, "one 0 2 end 1 end 2;");
        due("anew", x.rounds(2), 2);
        due("in the first act 0", x.mean(0, 0), 1);
        due("in the second act 1", x.mean(0, 1), 1);
        read(x, FORGOTTEN);
        due("one forgets", x.rounds(1), STATE);
        read(x, "two 0 2 two 0 2 end 1 end 2 end 3;");
        due("two forgets", x.rounds(1), STATE);
    }

    private static void promise22() {
        about("promise 22");
        HalfGames x = new HalfGames();
        due("no ROUND", x.bound(0), STATE);
        due("no ROUND", x.bound(1), STATE);
        due("how many", x.bound(2), 0);
        due("bound(3)", x.bound(3), BAD);
        due("bound(-1)", x.bound(-1), BAD);
        // Pennies: one gets 9 if the acts are unlike. ROUNDS (one two): 00, 10, 10 (two: 9 or 9), 11.
        read(x, PENNIES);
        long[][] want = {{0, 9}, {9, 18}, {9, 27}, {9, 27}};
        for (int k = 0; k < want.length; k++) {
            x.rounds(1);
            due("LOWER of " + (k + 1), x.bound(0), want[k][0] * WHOLE);
            due("UPPER of " + (k + 1), x.bound(1), want[k][1] * WHOLE);
            due("how many", x.bound(2), k + 1);
        }
        due("a ROUND changes no PLAN", x.value(), 0);
    }

    private static void promise23() {
        about("promise 23");
        HalfGames x = with(PENNIES);
        due("before a ROUND", x.mean(0, 0), 0);
        // The ROUNDS are those of promise 22: 00, 10, 10, 11.
        x.rounds(3);
        due("mean(0, 0)", x.mean(0, 0), 1);
        due("mean(0, 1)", x.mean(0, 1), 2);
        due("mean(1, 0)", x.mean(1, 0), 3);
        due("mean(1, 1)", x.mean(1, 1), 0);
        x.rounds(1);
        due("mean(0, 1)", x.mean(0, 1), 3);
        due("mean(1, 1)", x.mean(1, 1), 1);
        due("mean(0, 2)", x.mean(0, 2), BAD);
        due("mean(0, -1)", x.mean(0, -1), BAD);
        due("mean(2, 0)", x.mean(2, 0), BAD);
        due("mean(10, 0)", x.mean(10, 0), BAD);
        due("mean(-1, 0)", x.mean(-1, 0), BAD);
    }

    private static void promise24() {
        about("promise 24");
        HalfGames x = with(PENNIES);
        due("no ROUND", x.take(0), BAD);
        x.rounds(4);
        mix(x, 0, 5, 7);
        due("take(0)", x.take(0), 1);
        due("share(0, 0)", x.share(0, 0), 12);
        due("value of 00", x.value(), 0);
        due("take(1)", x.take(1), 1);
        due("share(0, 1)", x.share(0, 1), 12);
        due("share(0, 0)", x.share(0, 0), 0);
        due("value of 10", x.value(), 9 * WHOLE);
        due("take(3)", x.take(3), 1);
        due("value of 11", x.value(), 0);
        due("take(4)", x.take(4), BAD);
        due("take(-1)", x.take(-1), BAD);
        due("take(MOST)", x.take(MOST), BAD);
        due("share(1, 1), as it was", x.share(1, 1), 12);
    }

    private static void promise25() {
        about("promise 25");
        HalfGames x = with("deal 2 6 one 0 2 end 49 end 50 6 one 0 2 two 1 2 end 0 end 99 end 51;");
        long[] want = {1, 3, 4, 5, 3, 2, 4, 5, 5};
        for (int place = 0; place < want.length; place++) {
            due("kind(" + place + ")", x.kind(place), want[place]);
        }
        due("kind(9)", x.kind(9), BAD);
        due("kind(-1)", x.kind(-1), BAD);
    }

    private static void promise26() {
        about("promise 26");
        HalfGames x = with("deal 2 6 one 0 2 end 49 end 50 6 one 0 2 two 1 2 end 0 end 99 end 51;");
        String[] want = {"110000", "101100", "100010", "100011", "101100", "101000", "100010", "100011", "100011"};
        int[] ways = {0, 1, 2, 2, 1, 2, 3, 3, 2};
        for (int place = 0; place < want.length; place++) {
            for (int kind = 0; kind < 6; kind++) {
                long as = want[place].charAt(kind) == '1' ? ways[place] : KIND;
                due("as(" + place + ", " + kind + ")", x.as(place, kind), as);
                due("status()", x.status(), as == KIND ? 3 : 0);
            }
        }
        due("as(9, 0)", x.as(9, 0), BAD);
        due("as(-1, 0)", x.as(-1, 0), BAD);
        due("as(0, 6)", x.as(0, 6), BAD);
        due("as(0, -1)", x.as(0, -1), BAD);
    }

    private static void dueAsk(HalfGames x, int place, int what, long want, int... bodies) {
        due("ask(" + place + ", " + what + ")", x.ask(place, what), want);
        for (int i = 0; i < bodies.length; i++) {
            due("trace(" + i + ") of it", x.trace(i), bodies[i]);
        }
        due("trace behind it", x.trace(bodies.length), NONE);
    }

    private static void promise27() {
        about("promise 27");
        HalfGames x = with("deal 3 2 one 3 2 end 49 end 50 4 one 3 2 two 1 2 end 0 end 99 end 51 6 end 7;");
        dueAsk(x, 0, 0, 10 + 3, 11, 10);
        dueAsk(x, 0, 1, 0, 20);
        dueAsk(x, 1, 0, (3 + 1 + 300) * 2, 13, 12, 10, 21, 20);
        dueAsk(x, 1, 1, 301, 21, 20);
        dueAsk(x, 4, 0, (5 + 4 + 300) * 2, 13, 12, 10, 21, 20);
        dueAsk(x, 5, 0, 3 + 5 + 100, 12, 10, 21, 20);
        dueAsk(x, 5, 1, 105, 21, 20);
        dueAsk(x, 2, 0, 49, 14);
        dueAsk(x, 2, 1, 2, 20);
        dueAsk(x, 3, 0, 100, 15, 14);
        dueAsk(x, 3, 1, 3 + 100, 22, 20, 15, 14);
        dueAsk(x, 9, 0, 7, 14);
        HalfGames y = with("one 0 3 two 1 2 end 1 end 2 two 1 2 end 1 end 2 two 1 2 end 1 end 2;");
        dueAsk(y, 4, 0, (3 + 4 + 100) * 3, 13, 12, 10, 21, 20);
        due("ask(10, 0)", x.ask(10, 0), BAD);
        due("ask(-1, 0)", x.ask(-1, 0), BAD);
        due("ask(0, 2)", x.ask(0, 2), BAD);
        due("ask(0, -1)", x.ask(0, -1), BAD);
        due("the TRACE, as it was", x.trace(0), 14);
    }

    private static void promise28() {
        about("promise 28");
        HalfGames x = with("one 3 2 end 49 end 50;");
        due("before an ASK", x.trace(0), NONE);
        x.ask(0, 0);
        due("trace(0)", x.trace(0), 12);
        due("trace(3)", x.trace(3), 20);
        due("trace(4)", x.trace(4), NONE);
        due("trace(15)", x.trace(15), NONE);
        due("trace(16)", x.trace(16), NONE);
        due("trace(-1)", x.trace(-1), NONE);
        due("trace(MOST)", x.trace(MOST), NONE);
        due("trace(LEAST)", x.trace(LEAST), NONE);
    }

    private static void promise29() {
        about("promise 29");
        HalfGames x = with(FOUR);
        x.row(2, 0, 0);
        x.row(5, 0, 3);
        x.rounds(4);
        x.feed(0, 5);
        long[] want = {2, 11, 7, 1, 2, 4, 5};
        for (int what = 0; what < want.length; what++) {
            due("count(" + what + ")", x.count(what), want[what]);
        }
        due("count(7)", x.count(7), BAD);
        due("count(-1)", x.count(-1), BAD);
    }

    private static void promise30() {
        about("promise 30");
        HalfGames x = with("one 0 2 end 1 end 2;");
        due("there was none", x.status(), 0);
        x.row(0, 0, -1);
        due("SIZE", x.status(), 4);
        x.row(0, 3, 1);
        due("BAD changes it not", x.status(), 4);
        x.value();
        x.game();
        x.feed(0, 9);
        due("other calls change it not", x.status(), 4);
        x.set(0, 0, 0);
        due("NULL", x.status(), 1);
        x.row(0, 0, 2);
        due("none", x.status(), 0);
        x.set(0, 2, 0);
        due("PLACE", x.status(), 2);
        x.set(0, 0, 0);
        due("none", x.status(), 0);
        x.as(0, 1);
        due("KIND", x.status(), 3);
        x.as(0, 6);
        due("BAD as()", x.status(), 3);
        x.as(0, 2);
        due("none", x.status(), 0);
        x.row(1, 1, 2);
        x.copy(0, 0, 1, 0, 1);
        due("STORE", x.status(), 5);
        x.mix(0, 0, 0);
        due("mix() of wrong ITEMS is BAD", x.status(), 5);
        x.mix(0, 0, 1);
        due("mix() PLACE", x.status(), 2);
        x.mix(0, 2, 0);
        due("mix() NULL", x.status(), 1);
        x.mix(9, 2, 0);
        due("mix() BAD", x.status(), 1);
        x.set(0, 0, 12);
        x.drop(2);
        due("drop() NULL", x.status(), 1);
        x.mix(0, 0, 0);
        due("none", x.status(), 0);
        x.drop(2);
        x.drop(1);
        due("none", x.status(), 0);
        x.copy(0, 0, 0, 0, -1);
        due("copy() PLACE", x.status(), 2);
        x.copy(0, 0, 0, 1, 1);
        due("none", x.status(), 0);
    }
}
