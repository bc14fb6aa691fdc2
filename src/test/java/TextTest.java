/** What a text may say: every TOKEN and NUMBER up to its last and beyond it, and where which FAULT is told. */
public final class TextTest extends Checks {
    private static final String[] WORDS = {"end", "deal", "one", "two"};

    public static void main(String[] args) {
        blanks();
        names();
        numbers();
        signs();
        pays();
        ways();
        sharesOfTwo();
        sharesOfThree();
        sharesOfFour();
        sets();
        acts();
        setsAreOfOnePlayer();
        setsHaveAsManyActs();
        placesAreAtMostSixty();
        placesLieAtMostNineDeep();
        placesAreNumberedAsTheyStand();
        theEnd();
        theFirstTokenThatHasOne();
        ofOneTokenTheLeast();
        theWholeTape();
        whatAFaultLeaves();
        whatAGameLeaves();
        finish();
    }

    private static boolean isBlank(int b) {
        return b == 32 || b == 10;
    }

    private static boolean isLetter(int b) {
        return b >= 97 && b <= 122;
    }

    private static boolean isFigure(int b) {
        return b >= 48 && b <= 57;
    }

    private static void blanks() {
        about("bytes 32 and 10 between, and no other");
        for (int b = 0; b < 256; b++) {
            String sign = String.valueOf((char) b);
            if (isBlank(b)) {
                dueRead(sign + "end" + sign + sign + "5" + sign + ";" + sign, 1);
            } else {
                dueFault(sign + "end 5;", 0, 1);
                dueFault("end 5;" + sign, 6, 1);
                dueFault("end 5; " + sign, 7, 1);
            }
        }
        about("none are needed where TOKENS end by themselves");
        dueRead("end5;", 1);
        dueRead("deal2 6end1 6end2;", 3);
        dueRead("one0 2end1end2;", 3);
    }

    private static void names() {
        about("NAMES: letters a to z, and the four words alone");
        for (int b = 0; b < 256; b++) {
            String text = "end" + (char) b + "5;";
            if (isBlank(b)) {
                dueRead(text, 1);
            } else if (isFigure(b)) {
                dueRead(text, 1);
            } else {
                dueFault(text, isLetter(b) ? 0 : 3, 1);
            }
        }
        for (String word : WORDS) {
            dueFault(" " + word.substring(1) + " 5;", 1, 1);
            dueFault(" " + word.substring(0, word.length() - 1) + " 5;", 1, 1);
            for (char letter = 'a'; letter <= 'z'; letter++) {
                dueFault(letter + word + " 5;", 0, 1);
                dueFault(word + letter + " 5;", 0, 1);
                for (int at = 0; at < word.length(); at++) {
                    if (word.charAt(at) != letter) {
                        dueFault(word.substring(0, at) + letter + word.substring(at + 1) + " 5;", 0, 1);
                    }
                }
            }
            dueFault(word.toUpperCase() + " 5;", 0, 1);
        }
        dueFault("en d 5;", 0, 1);
        dueFault("endend 5;", 0, 1);
    }

    private static void numbers() {
        about("NUMBERS: figures, 2 at most");
        for (int b = 0; b < 256; b++) {
            if (isFigure(b)) {
                dueRead("end " + (char) b + ";", 1);
                dueRead("end 1" + (char) b + ";", 1);
                dueRead("end " + (char) b + "1;", 1);
                dueFault("end 12" + (char) b + ";", 4, 1);
                dueFault("end " + (char) b + "12;", 4, 1);
            } else if (!isBlank(b)) {
                dueFault("end " + (char) b + ";", 4, 1);
                dueFault("end 1" + (char) b + "1;", b == ';' ? 6 : 5, 1);
            }
        }
        dueFault("end 000;", 4, 1);
        dueFault("end 007;", 4, 1);
        dueFault("end 100;", 4, 1);
        dueFault("end " + "9".repeat(500) + ";", 4, 1);
        dueFault("end 4294967297;", 4, 1);
        dueFault("end 1 2;", 6, 1);
        dueFault("deal 002 6 end 1 6 end 2;", 5, 1);
        dueFault("deal 2 006 end 1 6 end 2;", 7, 1);
        dueFault("one 000 2 end 1 end 2;", 4, 1);
        dueFault("one 0 002 end 1 end 2;", 6, 1);
        dueRead("deal 02 06 end 01 06 end 02;", 3);
        dueRead("one 09 03 end 00 end 00 end 99;", 4);
    }

    private static void signs() {
        about("text: place ';' and nothing behind it");
        for (int b = 33; b < 127; b++) {
            if (isLetter(b) || isFigure(b)) {
                dueFault("end 5 " + (char) b, 6, 1);
            } else {
                String text = "end 5" + (char) b;
                if (b == ';') {
                    dueRead(text, 1);
                } else {
                    dueFault(text, 5, 1);
                }
            }
        }
        dueFault(";", 0, 1);
        dueFault(";end 5;", 0, 1);
        dueFault("end 5;;", 6, 1);
        dueFault("end 5; end 5;", 7, 1);
        dueFault("end 5;0", 6, 1);
        dueFault("end;5;", 3, 1);
        dueFault("deal 2;6 end 1 6 end 2;", 6, 1);
        dueFault("deal 2 6; end 1 6 end 2;", 8, 1);
        dueFault("deal 2 6 end 1; 6 end 2;", 14, 1);
        dueFault("one 0; 2 end 1 end 2;", 5, 1);
        dueFault("one 0 2; end 1 end 2;", 7, 1);
        dueFault("one 0 2 end 1; end 2;", 13, 1);
    }

    private static void pays() {
        about("PAY, 0 to 99");
        for (int pay = 0; pay < 100; pay++) {
            HalfGames x = with("end " + pay + ";");
            due("PAY of end " + pay, x.place(0, 1), pay);
            due("value of end " + pay, x.value(), pay * WHOLE);
            HalfGames y = with("end " + (pay < 10 ? "0" : "") + pay + ";");
            due("PAY in two figures", y.place(0, 1), pay);
        }
        dueFault("end end 5;", 4, 1);
        dueFault("end ;", 4, 1);
    }

    private static void ways() {
        about("a deal has 2 to 4 ways");
        dueRead("deal 2 6 end 1 6 end 2;", 3);
        dueRead("deal 3 4 end 1 4 end 2 4 end 3;", 4);
        dueRead("deal 4 3 end 1 3 end 2 3 end 3 3 end 4;", 5);
        for (int ways = 0; ways < 100; ways++) {
            if (ways < 2 || ways > 4) {
                dueFault("deal " + ways + " 6 end 1 6 end 2;", 5, 2);
            }
        }
        about("so many of share and place");
        dueFault("deal 3 6 end 1 6 end 2;", 22, 1);
        dueFault("deal 2 6 end 1 6 end 2 1 end 3;", 23, 1);
        dueFault("deal 2 6 end 1 end 2;", 15, 1);
        dueFault("deal 2 6 6 end 1;", 9, 1);
        dueFault("deal end 1;", 5, 1);
        dueFault("deal 2 end 1;", 7, 1);
    }

    private static void sharesOfTwo() {
        about("shares 1 to 11, 12 together: a deal of 2");
        for (int a = 0; a < 100; a++) {
            for (int b = 0; b < 100; b++) {
                dueShares(a, b);
            }
        }
    }

    private static void sharesOfThree() {
        about("shares 1 to 11, 12 together: a deal of 3");
        for (int a = 0; a < 14; a++) {
            for (int b = 0; b < 14; b++) {
                for (int c = 0; c < 14; c++) {
                    dueShares(a, b, c);
                }
            }
        }
    }

    private static void sharesOfFour() {
        about("shares 1 to 11, 12 together: a deal of 4");
        for (int a = 0; a < 14; a++) {
            for (int b = 0; b < 14; b++) {
                for (int c = 0; c < 14; c++) {
                    dueShares(a, b, c, 0);
                    dueShares(a, b, c, 1);
                    dueShares(a, b, c, Math.max(0, 11 - a - b - c));
                    dueShares(a, b, c, Math.max(0, 12 - a - b - c));
                    dueShares(a, b, c, Math.max(0, 13 - a - b - c));
                    dueShares(a, b, c, 12);
                }
            }
        }
    }

    /** The first share that is not 1 to 11, or makes them more than 12, or is the last and leaves them less. */
    private static void dueShares(int... shares) {
        StringBuilder text = new StringBuilder("deal " + shares.length);
        int wrongAt = -1;
        int all = 0;
        for (int k = 0; k < shares.length; k++) {
            all += shares[k];
            boolean isWrong = shares[k] < 1 || shares[k] > 11 || all > 12 || k == shares.length - 1 && all < 12;
            if (isWrong && wrongAt < 0) {
                wrongAt = text.length() + 1;
            }
            text.append(' ').append(shares[k]).append(" end 1");
        }
        text.append(';');
        if (wrongAt < 0) {
            dueRead(text.toString(), shares.length + 1);
        } else {
            dueFault(text.toString(), wrongAt, 2);
        }
    }

    private static void sets() {
        about("a SET 0 to 9");
        for (int set = 0; set < 100; set++) {
            for (String word : new String[] {"one", "two"}) {
                String text = word + " " + set + " 2 end 1 end 2;";
                if (set < 10) {
                    dueRead(text, 3);
                    due("seen of it", with(text).seen(set, 0), word.equals("one") ? 0 : 1);
                } else {
                    dueFault(text, 4, 2);
                }
            }
        }
        dueFault("one end 1;", 4, 1);
        dueFault("two;", 3, 1);
    }

    private static void acts() {
        about("how many acts, 2 or 3");
        for (int acts = 0; acts < 100; acts++) {
            for (String word : new String[] {"one", "two"}) {
                String text = word + " 7 " + acts + " end 1".repeat(Math.min(acts, 9)) + ";";
                if (acts == 2 || acts == 3) {
                    dueRead(text, acts + 1);
                    due("seen of it", with(text).seen(7, 1), acts);
                } else {
                    dueFault(text, 6, 2);
                }
            }
        }
        about("so many places");
        dueFault("one 0 2 end 1;", 13, 1);
        dueFault("one 0 3 end 1 end 2;", 19, 1);
        dueFault("one 0 2 end 1 end 2 end 3;", 20, 1);
        dueFault("two 0 3 end 1 end 2 end 3 end 4;", 26, 1);
        dueFault("one 0 end 1 end 2;", 6, 1);
        dueFault("one 0 2 6 end 1 6 end 2;", 8, 1);
    }

    private static void setsAreOfOnePlayer() {
        about("a SET of the other player: at the SET");
        dueFault("one 0 2 two 0 2 end 1 end 1 end 2;", 12, 2);
        dueFault("two 0 2 one 0 2 end 1 end 1 end 2;", 12, 2);
        dueFault("deal 2 6 one 3 2 end 1 end 2 6 two 3 2 end 1 end 2;", 35, 2);
        dueFault("deal 2 6 two 9 3 end 1 end 2 end 3 6 one 9 3 end 1 end 2 end 3;", 41, 2);
        about("a SET of the other player, and acts that are not as many: at the SET, that comes first");
        dueFault("one 0 2 two 0 3 end 1 end 1 end 2;", 12, 2);
        dueFault("one 0 2 two 0 9 end 1 end 1 end 2;", 12, 2);
        about("a SET of the other player, and nothing behind it");
        dueFault("one 0 2 two 0", 12, 2);
        about("a SET of a text that had a FAULT, or of the GAME before, is no SET of this one");
        HalfGames x = new HalfGames();
        due("a FAULT", read(x, "one 0 2 end 1 !"), HalfGames.NOT - 114);
        due("the other player, other acts", read(x, "two 0 3 end 1 end 2 end 3;"), 4);
        due("the first player again", read(x, "one 0 2 end 1 end 2;"), 3);
        due("and the other", read(x, "two 0 3 end 1 end 2 end 3;"), 4);
    }

    private static void setsHaveAsManyActs() {
        about("acts that are not as many as the SET has: at how many");
        dueFault("one 0 2 one 0 3 end 1 end 1 end 1 end 2;", 14, 2);
        dueFault("two 0 3 two 0 2 end 1 end 1 end 1 end 2;", 14, 2);
        dueFault("deal 2 6 one 3 2 end 1 end 2 6 one 3 3 end 1 end 2 end 3;", 37, 2);
        dueFault("deal 2 6 one 3 2 end 1 end 2 6 one 3 1 end 1;", 37, 2);
        dueFault("deal 2 6 one 3 3 end 1 end 2 end 3 6 one 3 4 end 1;", 43, 2);
        dueRead("deal 2 6 one 3 2 end 1 end 2 6 one 3 2 end 1 end 2;", 7);
        dueRead("deal 2 6 one 3 3 end 1 end 2 end 3 6 one 3 3 end 1 end 2 end 3;", 9);
        dueRead("one 0 2 one 0 2 end 1 end 1 end 2;", 5);
    }

    /** 59 PLACES, and one still to come, the third act of PLACE 31. */
    private static String upTo59() {
        String three = "deal 3 4 end 1 4 end 1 4 end 1 ";
        String four = "deal 4 3 end 1 3 end 1 3 end 1 3 end 1 ";
        String fifteen = four + four + three;
        return "one 0 3 one 1 3 " + fifteen + "one 2 3 " + fifteen
                + "one 3 3 one 4 3 " + fifteen + "two 5 3 " + four + four + "end 1 ";
    }

    private static int wordsOf(String text) {
        int words = 0;
        for (String token : text.split("[ ;]+")) {
            words += token.matches("[a-z]+") ? 1 : 0;
        }
        return words;
    }

    private static void placesAreAtMostSixty() {
        about("at most 60 PLACES");
        String start = upTo59();
        due("the text of this test has", wordsOf(start), 59);
        dueRead(start + "end 1;", 60);
        HalfGames x = with(start + "end 1;");
        due("count(1)", x.count(1), 60);
        due("the last PLACE", x.place(59, 1), 1);
        due("beyond it", x.place(60, 1), BAD);
        about("the 61st PLACE (its word)");
        for (String inner : new String[] {"deal 2 6 ", "one 6 2 ", "two 6 2 ", "deal 4 3 ", "two 6 3 "}) {
            String full = start + inner;
            due("the text of this test has", wordsOf(full), 60);
            for (String word : WORDS) {
                dueFault(full + word + " 1;", full.length(), 3);
                dueFault(full + word, full.length(), 3);
                dueFault(full + word + "s", full.length(), 1);
            }
            dueFault(full + "5;", full.length(), 1);
            dueFault(full + ";", full.length(), 1);
            dueFault(full, full.length(), 1);
            dueFault(full + "!", full.length(), 1);
        }
        dueFault(start + "end 1 end 1;", start.length() + 6, 1);
        about("a NUMBER ahead of the 61st PLACE that is wrong is told first");
        dueFault(start + "deal 5 6 end 1", start.length() + 5, 2);
        dueFault(start + "deal 2 12 end 1", start.length() + 7, 2);
        dueFault(start + "one 10 2 end 1", start.length() + 4, 2);
        dueFault(start + "two 0 2 end 1", start.length() + 4, 2);
        dueFault(start + "one 0 2 end 1", start.length() + 6, 2);
    }

    private static void placesLieAtMostNineDeep() {
        for (String above : new String[] {"deal 2 6 end 1 6 ", "one 1 2 end 1 ", "two 2 3 end 1 end 2 "}) {
            about("9 below one another, the 9th an end, all <" + above + ">");
            String seven = above.repeat(7);
            String eight = above.repeat(8);
            dueRead(seven + "end 9;", wordsOf(seven) + 1);
            dueRead(eight + "end 9;", wordsOf(eight) + 1);
            HalfGames x = with(eight + "end 9;");
            due("WAYS of the 9th", x.place(wordsOf(eight), 5), 8);
            about("one that is no end as the 9th below one another (its word)");
            for (String word : new String[] {"deal", "one", "two"}) {
                dueFault(eight + word + " 2 6 end 1 6 end 2;", eight.length(), 3);
                dueFault(eight + word, eight.length(), 3);
                dueFault(eight + word + "x", eight.length(), 1);
            }
            dueFault(eight + "end", eight.length() + 3, 1);
            dueFault(eight + "end end", eight.length() + 4, 1);
            dueFault(eight + "7", eight.length(), 1);
            dueFault(eight + ";", eight.length(), 1);
            dueFault(eight, eight.length(), 1);
        }
        about("how deep is counted from the top one, not from the PLACE before");
        String deep = "one 1 2 ".repeat(8);
        dueRead(deep + "end 1 ".repeat(9) + ";", 17);
        String behind = deep + "end 1 end 2 ";
        dueFault(behind + "one 1 2 one 1 2", behind.length() + 8, 3);
        String up = deep + "end 1 ".repeat(8);
        dueRead(up + "one 1 2 ".repeat(7) + "end 1 ".repeat(8) + ";", 31);
    }

    private static void placesAreNumberedAsTheyStand() {
        about("PLACES are numbered 0, 1, .. as they stand");
        HalfGames x = with("deal 2 1 one 0 2 end 10 two 1 2 end 11 end 12 11 end 13;");
        long[] above = {NONE, 0, 1, 1, 3, 3, 0};
        long[] pay = {NONE, NONE, 10, NONE, 11, 12, 13};
        for (int place = 0; place < 7; place++) {
            due("above " + place, x.place(place, 4), above[place]);
            due("PAY of " + place, x.place(place, 1), pay[place]);
        }
    }

    private static void theEnd() {
        about("the end of the text has FAULT 1: how many bytes there are");
        String text = "deal 2 5 one 3 2 end 1 end 2 7 two 4 3 end 1 end 2 end 3;";
        dueRead(text, 8);
        for (int n = 0; n < text.length(); n++) {
            String cut = text.substring(0, n);
            boolean isInWord = n > 0 && isLetter(cut.charAt(n - 1)) && isLetter(text.charAt(n));
            dueFault(cut, isInWord ? Math.max(cut.lastIndexOf(' '), -1) + 1 : n, 1);
            if (!isInWord) {
                dueFault(cut + " \n", n + 2, 1);
            }
        }
        dueFault("", 0, 1);
        dueFault(" ", 1, 1);
        dueFault("\n\n\n", 3, 1);
    }

    private static void theFirstTokenThatHasOne() {
        about("the first TOKEN that has one");
        dueFault("deal 5 0 foo 123;;", 5, 2);
        dueFault("deal 2 0 foo 123;;", 7, 2);
        dueFault("deal 2 6 foo 123;;", 9, 1);
        dueFault("deal 2 6 end 123 7;;", 13, 1);
        dueFault("deal 2 6 end 1 7 foo;;", 15, 2);
        dueFault("one 10 4 foo", 4, 2);
        dueFault("one 0 4 foo", 6, 2);
        dueFault("one 0 2 foo !", 8, 1);
        dueFault("! one 0 2", 0, 1);
        String eight = "one 1 2 ".repeat(8);
        dueFault(eight + "two 1 9 !", eight.length(), 3);
        dueFault("deal 5 " + eight + "two 1 2", 5, 2);
        about("its first byte, though blanks and bytes of it come ahead and behind");
        dueFault("   \n  foo 123", 6, 1);
        dueFault("end   123456;", 6, 1);
        dueFault("deal \n 17;", 7, 2);
    }

    private static void ofOneTokenTheLeast() {
        about("of one TOKEN the least: 1 ahead of 2");
        dueFault("deal 100 6 end 1", 5, 1);
        dueFault("deal 2 100 end 1", 7, 1);
        dueFault("one 100 2 end 1", 4, 1);
        dueFault("one 0 100 end 1", 6, 1);
        dueFault("deal one 6 end 1", 5, 1);
        about("of one TOKEN the least: 1 ahead of 3");
        String eight = "one 1 2 ".repeat(8);
        dueFault(eight + "twos 2 2", eight.length(), 1);
        dueFault(eight + "2", eight.length(), 1);
        String sixty = upTo59() + "one 6 2 ";
        dueFault(sixty + "ends 2", sixty.length(), 1);
        dueFault(sixty + "12", sixty.length(), 1);
        about("the 61st PLACE that is the 9th, too, and no end");
        String four = "deal 4 3 end 1 3 end 1 3 end 1 3 end 1 ";
        String both = "one 1 2 " + four + "one 2 3 " + four.repeat(2) + "one 3 3 " + four.repeat(2) + "one 4 3 "
                + four.repeat(2) + "one 5 3 " + four.repeat(2) + "one 6 3 " + "end 1 ".repeat(2) + "one 7 3 "
                + "end 1 ".repeat(2) + "one 8 3 end 1 end 1 ";
        due("the text of this test has", wordsOf(both), 59);
        dueFault(both + "one 9 2 end 1", both.length(), 3);
        dueRead(both + "end 1;", 60);
    }

    private static void theWholeTape() {
        about("a text of 600 bytes");
        String text = CARDS.substring(0, CARDS.length() - 1);
        dueRead(text + " ".repeat(599 - text.length()) + ";", 11);
        dueRead(" ".repeat(600 - CARDS.length()) + CARDS, 11);
        dueRead(CARDS + "\n".repeat(600 - CARDS.length()), 11);
        about("the farthest places of a FAULT: the 600th byte, and the end behind it");
        dueFault(" ".repeat(599) + "!", 599, 1);
        dueFault(" ".repeat(599) + "d", 599, 1);
        dueFault("end 5" + " ".repeat(595), 600, 1);
        dueFault("deal" + " ".repeat(595) + "9", 599, 2);
        dueFault("end" + " ".repeat(595) + "12", 600, 1);
        dueFault("end" + " ".repeat(594) + "123", 597, 1);
        about("the byte that a longer text left behind is not read");
        HalfGames x = new HalfGames();
        due("a longer text", read(x, "end 99;"), 1);
        due("a shorter one", read(x, "end 9"), HalfGames.NOT - 105);
        due("a shorter one", read(x, "end"), HalfGames.NOT - 103);
        due("none", x.game(), HalfGames.NOT - 100);
    }

    private static void whatAFaultLeaves() {
        about("a FAULT: the tape is empty, the GAME stays, fault() tells the latest");
        HalfGames x = with(CARDS);
        String[] texts = {"deal 5", "end", "one 1 2 ".repeat(9), "end 1;;", "two 0 4"};
        int[] numbers = {2, 1, 3, 1, 2};
        for (int k = 0; k < texts.length; k++) {
            if (read(x, texts[k]) > HalfGames.NOT - 100) {
                fail("<" + texts[k] + "> is read");
            }
            due("fault()", x.fault(), numbers[k]);
            due("count(1)", x.count(1), 11);
            due("count(6)", x.count(6), 0);
            due("value()", x.value(), 60 * WHOLE);
            due("place(1, 0)", x.place(1, 0), 2);
            due("seen(1, 2)", x.seen(1, 2), 1);
            due("seen(0, 1)", x.seen(0, 1), 2);
        }
        about("fault() stays when a GAME is read behind it; 0 before one");
        due("game()", read(x, "end 1;"), 1);
        due("fault()", x.fault(), 2);
        due("fault() of a new object", new HalfGames().fault(), 0);
        due("fault() behind GAMES alone", with(CARDS).fault(), 0);
    }

    private static void whatAGameLeaves() {
        about("a GAME that is read stands in place of the one before, whatever was read ahead of it");
        String[] texts = {"end 7;", CARDS, FORGOTTEN, FOUR, PENNIES, "two 9 3 end 1 end 2 end 3;",
            "deal 4 3 end 1 3 end 2 3 end 3 3 deal 4 3 end 1 3 end 2 3 end 3 3 one 0 2 end 1 end 2;"};
        String[] between = {CARDS, FORGOTTEN, "deal 2 6 one 3 2 end 1 end 2 6 one 0 3 end 1 end 2 end 3", upTo59() + "one",
            "one 1 2 ".repeat(8) + "end 1 ".repeat(9) + ";"};
        for (String text : texts) {
            Picture alone = Picture.of(x -> read(x, text));
            for (String first : texts) {
                for (String second : between) {
                    Picture behind = Picture.of(x -> {
                        read(x, first);
                        x.rounds(7);
                        x.take(6);
                        read(x, second);
                        x.rounds(3);
                        read(x, text);
                    });
                    String difference = Picture.difference(alone, behind, "fault");
                    if (difference != null) {
                        fail("<" + first + ">, <" + second + ">, <" + text + ">: " + difference);
                    }
                }
            }
        }
    }
}
