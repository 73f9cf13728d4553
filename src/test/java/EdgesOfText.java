/** The terms, part 1: what a text may tell, its tokens, its lines, its faults; and what becomes anew. */
final class EdgesOfText {
    private static final String HOUSES = "house;house;house;house;house;";
    private static final String DOMAINS = "domain;domain;domain;domain;";

    private static final String[] LINES = {"house ;", "house wary ;", "domain ;", "domain 0 0 1 1 2 2 ;", "box 0 0 ;",
        "alias 0 0 1 1 ;", "list 0 0 0 1 0 2 0 3 0 4 ;"};

    private EdgesOfText() {
    }

    static void check() {
        fiveHouses();
        fourDomains();
        leastPreference();
        namesOfDomains();
        kindsOfAddresses();
        tapeOfTwoHundred();
        blanks();
        signs();
        noToken();
        tooLong();
        linesCutShort();
        tokensThatCanNotStand();
        whatBeginsNoLine();
        tooManyInALine();
        bounds();
        receivesAlready();
        toldAlready();
        inTheListAlready();
        sixthHouse();
        houseThatIsNotThere();
        domainThatIsNotThere();
        firstMet();
        inPlaceOfWhatThereWas();
        anew();
    }

    private static void fiveHouses() {
        Checks.of(0, "HOUSES 0 on (5 at most; none at first), each WARY or not, UP (at first) or DOWN.");
        for (int n = 0; n <= 5; n++) {
            WaryHouses x = Checks.told(n, "house;".repeat(n));
            Checks.due("rule(0)", x.rule(0), n);
            for (int h = 0; h < n; h++) {
                Checks.due("house(" + h + ", 0)", x.house(h, 0), 0);
                Checks.due("house(" + h + ", 1)", x.house(h, 1), 1);
            }
            Checks.due("house(" + n + ", 0), one too many", x.house(n, 0), Checks.BAD);
        }
        WaryHouses wary = Checks.told(5, "house wary;".repeat(5));
        for (int h = 0; h < 5; h++) {
            Checks.due("house(" + h + ", 0)", wary.house(h, 0), 1);
            Checks.due("house(" + h + ", 1)", wary.house(h, 1), 1);
        }
        WaryHouses some = Checks.told(3, "house;house wary;house;");
        Checks.answers("house(h, 0)", h -> some.house(h, 0), 0, 1, 0);
    }

    private static void fourDomains() {
        Checks.of(0, "DOMAINS 0 on (4 at most), each with RECEIVERS (0 to 3): HOUSES (none twice), each with a PREFERENCE"
                + " (0 to 9).");
        for (int n = 0; n <= 4; n++) {
            WaryHouses x = Checks.told(n, "domain;".repeat(n));
            Checks.due("rule(1)", x.rule(1), n);
            Checks.due("receiver(" + n + ", 0, 0), one too many", x.receiver(n, 0, 0), Checks.BAD);
        }
        WaryHouses x = Checks.told(9, HOUSES + "domain;domain 4 9;domain 0 0 4 9;domain 4 9 0 0 2 9;");
        Checks.row("receiver(0, i, 0)", i -> x.receiver(0, i, 0));
        Checks.row("receiver(1, i, 0)", i -> x.receiver(1, i, 0), 4);
        Checks.row("receiver(1, i, 1)", i -> x.receiver(1, i, 1), 9);
        Checks.row("receiver(2, i, 0)", i -> x.receiver(2, i, 0), 0, 4);
        Checks.row("receiver(2, i, 1)", i -> x.receiver(2, i, 1), 0, 9);
        Checks.row("receiver(3, i, 0)", i -> x.receiver(3, i, 0), 4, 0, 2);
        Checks.row("receiver(3, i, 1)", i -> x.receiver(3, i, 1), 9, 0, 9);
    }

    private static void leastPreference() {
        Checks.of(0, "A HOUSE is LAST for a DOMAIN, if it is one of its RECEIVERS, of the least PREFERENCE of these.");
        WaryHouses x = Checks.told(9, HOUSES + "domain;domain 2 9;domain 3 1 1 0 4 1;domain 0 5 4 5 2 5;");
        Checks.row("receiver(1, i, 2), one alone", i -> x.receiver(1, i, 2), 1);
        Checks.row("receiver(2, i, 2), the least in the midst", i -> x.receiver(2, i, 2), 0, 1, 0);
        Checks.row("receiver(3, i, 2), all the same", i -> x.receiver(3, i, 2), 1, 1, 1);
        Checks.answers("house(h, 5)", h -> x.house(h, 5), 1, 1, 2, 0, 1);
        WaryHouses two = Checks.told(6, HOUSES + "domain 1 9 2 8 0 8;");
        Checks.row("receiver(0, i, 2), two of the least", i -> two.receiver(0, i, 2), 0, 1, 1);
    }

    private static void namesOfDomains() {
        Checks.of(0, "ADDRESSES: a NAME (0 to 7) of a DOMAIN, told as 8 times the DOMAIN and the NAME.");
        WaryHouses x = Checks.told(8, DOMAINS + "box 0 0;box 0 7;box 3 0;box 3 7;");
        for (int a = 0; a < 32; a++) {
            boolean told = a == 0 || a == 7 || a == 24 || a == 31;
            Checks.due("address(" + a + ", 0)", x.address(a, 0), told ? 1 : 0);
        }
    }

    private static void kindsOfAddresses() {
        Checks.of(0, "An ADDRESS is a BOX, an ALIAS of an ADDRESS, a LIST of 1 to 4 ADDRESSES (none twice), or it is UNKNOWN"
                + " (also if there is no such DOMAIN).");
        WaryHouses x = Checks.told(6, "domain;box 0 0;alias 0 1 0 1;list 0 2 0 2;list 0 3 0 0 0 1 0 2;list 0 4 3 7 0 4 0 1 0 0;");
        Checks.answers("address(a, 0)", a -> x.address(a, 0), 1, 2, 3, 3, 3, 0, 0, 0, 0);
        Checks.due("address(31, 0), no such domain", x.address(31, 0), 0);
        Checks.answers("address(a, 1)", a -> x.address(a, 1), 0, Checks.NONE, 1, 3, 4, Checks.NONE);
        Checks.row("leads(1, i), an alias of itself", i -> x.leads(1, i), 1);
        Checks.row("leads(2, i), a list of one", i -> x.leads(2, i), 2);
        Checks.row("leads(4, i), a list of four", i -> x.leads(4, i), 31, 4, 1, 0);
    }

    private static void tapeOfTwoHundred() {
        Checks.of(0, "THE TAPE has 200 bytes, places from 0.");
        Checks.refused(".", 1, 0);
        Checks.refused("house;" + " ".repeat(193) + ".", 1, 199);
        Checks.refused(" ".repeat(194) + "domain", 2, 200);
        Checks.told(1, " ".repeat(194) + "house;");
    }

    private static void blanks() {
        Checks.of(0, "TOKENS, each as long as may be, blanks (32) ahead, between, behind, as many as wanted (at least one"
                + " between two NAMES, between two NUMBERS; else none is needed):");
        Checks.told(3, "house;domain0 0;box0 1;");
        Checks.told(3, "   house   ;   domain   0   0   ;   box   0   1   ;   ");
        Checks.told(1, "house" + " ".repeat(100) + "wary" + " ".repeat(90) + ";");
        Checks.refused("housewary;", 2, 0);
        Checks.refused("hou se;", 2, 0);
        Checks.refused("house war y;", 2, 6);
        Checks.refused("house;domain 00;", 2, 15);
        Checks.refused("house;domain 000;", 1, 13);
        Checks.refused("domain 0 0house;", 2, 10);
        Checks.refused("box 0 0box 0 1;", 2, 7);
        for (int c : new int[] {0, 9, 10, 13, 31, 33, 127}) {
            Checks.refused("house;" + (char) c + "house;", 1, 6);
        }
    }

    private static void signs() {
        Checks.of(0, "NAMES (a .. z), NUMBERS (1 or 2 figures), the sign ; (a point is none).");
        for (int c = 0; c <= 127; c++) {
            boolean name = c >= 'a' && c <= 'z';
            boolean number = c >= '0' && c <= '9';
            if (c != ' ') {
                Checks.refused(Character.toString(c), name || number || c == ';' ? 2 : 1, 0);
            }
        }
        Checks.refused("azaz;", 2, 0);
        Checks.refused("house1;", 2, 5);
        Checks.refused("houseA;", 1, 5);
        Checks.told(2, "domain;box 0 7;");
        Checks.told(2, "domain;box 00 07;");
        WaryHouses x = Checks.told(2, "domain;box 00 07;");
        Checks.due("address(7, 0)", x.address(7, 0), 1);
    }

    private static void noToken() {
        Checks.of(0, "1 no TOKEN,");
        everywhere(".");
        everywhere("HOUSE");
        Checks.refused(".", 1, 0);
        Checks.refused("house.;", 1, 5);
        Checks.refused("house .", 1, 6);
        Checks.refused("house wary.", 1, 10);
        Checks.refused("domain.", 1, 6);
        Checks.refused("domain 0.0;", 1, 8);
        Checks.refused("domain 0 0.", 1, 10);
        Checks.refused("domain 0 0 1 0 2 0.", 1, 18);
        Checks.refused("box.", 1, 3);
        Checks.refused("box 0.", 1, 5);
        Checks.refused("box 0 0.", 1, 7);
        Checks.refused("alias 0 0.", 1, 9);
        Checks.refused("alias 0 0 0.", 1, 11);
        Checks.refused("alias 0 0 0 0.", 1, 13);
        Checks.refused("list 0 0.", 1, 8);
        Checks.refused("list 0 0 0.", 1, 10);
        Checks.refused("list 0 0 0 0.", 1, 12);
        Checks.refused("list 0 0 0 0 0 1 0 2 0 3.", 1, 24);
    }

    /** At every place of every line, and behind its last token. */
    private static void everywhere(String token) {
        for (String line : LINES) {
            StringBuilder ahead = new StringBuilder();
            for (String next : line.split(" ")) {
                Checks.refused(ahead + token, 1, ahead.length());
                Checks.refused(ahead + token + " ; house ;", 1, ahead.length());
                Checks.refused(ahead + token + " " + next + " 0 0 ;", 1, ahead.length());
                ahead.append(next).append(' ');
            }
            Checks.refused(ahead + token + ";", 1, ahead.length());
        }
    }

    private static void tooLong() {
        Checks.of(0, "a NUMBER that is too long (its first byte).");
        everywhere("000");
        everywhere("123456789");
        Checks.refused("domain;box 0 000;", 1, 13);
        Checks.refused("domain;box 0 007;", 1, 13);
        Checks.refused("domain 123 0;", 1, 7);
        Checks.refused("domain 0 100;", 1, 9);
        Checks.refused("123", 1, 0);
        Checks.refused("  1234567890;", 1, 2);
        Checks.refused("0".repeat(200), 1, 0);
        Checks.refused("house 000;", 1, 6);
        Checks.refused("domain 0 0 1 0 2 0 333 0;", 1, 19);
        Checks.refused("list 0 0 0 0 0 1 0 2 0 3 4294967296;", 1, 25);
        Checks.refused("box 0 0 4294967296", 1, 8);
    }

    /** Every text that ends within a line, with and without blanks behind. */
    private static void linesCutShort() {
        Checks.of(0, "or the end: the length).");
        for (String line : LINES) {
            String[] tokens = line.split(" ");
            StringBuilder text = new StringBuilder(tokens[0]);
            for (int i = 1; i < tokens.length; i++) {
                Checks.refused(text.toString(), 2, text.length());
                Checks.refused("house;" + text + "   ", 2, text.length() + 9);
                text.append(' ').append(tokens[i]);
            }
        }
    }

    /** At every place of every line each sort of token that can not stand there. n, s, w, x: NUMBER, sign, wary, a NAME. */
    private static void tokensThatCanNotStand() {
        Checks.of(0, "2 a TOKEN that can not stand there (");
        spoil("house ;", "", "nx");
        spoil("house wary ;", "", "nx", "nwx");
        spoil("domain 0 0 1 0 2 0 ;", "", "wx", "swx", "wx", "swx", "wx", "swx", "nwx");
        spoil("box 0 0 ;", "", "swx", "swx", "nwx");
        spoil("alias 0 0 1 1 ;", "", "swx", "swx", "swx", "swx", "nwx");
        spoil("list 0 0 0 1 0 2 0 3 0 4 ;", "", "swx", "swx", "swx", "swx", "wx", "swx", "wx", "swx", "wx", "swx", "nwx");
    }

    private static void spoil(String line, String... wrong) {
        String[] tokens = line.split(" ");
        int first = tokens.length - wrong.length;
        StringBuilder ahead = new StringBuilder();
        for (int i = 0; i < tokens.length; i++) {
            for (char sort : (i < first ? "" : wrong[i - first]).toCharArray()) {
                String token = sort == 'n' ? "0" : sort == 's' ? ";" : sort == 'w' ? "wary" : "house";
                Checks.refused(ahead + token + " ;", 2, ahead.length());
            }
            ahead.append(tokens[i]).append(' ');
        }
    }

    private static void whatBeginsNoLine() {
        Checks.of(0, "a NAME that begins no line;");
        for (String name : new String[] {"wary", "hous", "houses", "domai", "domains", "bo", "boxes", "alia", "aliass", "lis",
            "lists", "a", "z", "x".repeat(150)}) {
            Checks.refused(name, 2, 0);
            Checks.refused(name + " 0 0;", 2, 0);
            Checks.refused("house; " + name, 2, 7);
        }
        for (String name : new String[] {"house", "domain", "box", "alias", "list"}) {
            for (int i = 0; i < name.length(); i++) {
                Checks.refused(name.substring(0, i) + "q" + name.substring(i + 1) + " 0 0;", 2, 0);
                Checks.refused("house;" + name.substring(0, i) + name.substring(i + 1) + ";", 2, 6);
            }
        }
        for (String name : new String[] {"qary", "wqry", "waqy", "warq", "war", "waryy", "ary"}) {
            Checks.refused("house " + name + ";", 2, 6);
        }
        Checks.refused(";", 2, 0);
        Checks.refused("house;;", 2, 6);
        Checks.refused("0", 2, 0);
        Checks.refused("house;00 house;", 2, 6);
    }

    private static void tooManyInALine() {
        Checks.of(0, "a 4th RECEIVER, a 5th of a LIST, a LIST of none;");
        Checks.told(6, HOUSES + "domain 0 0 1 0 2 0;");
        Checks.refused(HOUSES + "domain 0 0 1 0 2 0 3 0;", 2, 49);
        Checks.refused("domain 0 0 1 0 2 0 0 0;", 2, 19);
        Checks.refused("domain 0 0 1 0 2 0 99 0;", 2, 19);
        Checks.told(2, "domain;list 0 0 0 1 0 2 0 3 0 4;");
        Checks.refused("domain;list 0 0 0 1 0 2 0 3 0 4 0 5;", 2, 32);
        Checks.refused("list 0 0 0 1 0 2 0 3 0 4 0 1;", 2, 25);
        Checks.refused("list 0 0 0 1 0 2 0 3 0 4 99 1;", 2, 25);
        Checks.refused("domain;list 0 0;", 2, 15);
        Checks.refused("list 0 0 ;", 2, 9);
    }

    private static void bounds() {
        Checks.of(0, "3 a NUMBER out of its bounds.");
        Checks.of(0, "house: a HOUSE more. domain: a DOMAIN more: RECEIVERS, each the HOUSE (0 to 4), the PREFERENCE.");
        bound(HOUSES + "domain # 0;", 4);
        bound(HOUSES + "domain 0 #;", 9);
        bound(HOUSES + "domain 0 0 1 #;", 9);
        bound(HOUSES + "domain 0 0 1 0 2 #;", 9);
        bounded("domain 0 1 1 1 # 0;", 4);
        Checks.of(0, "box, alias, list: of a DOMAIN (0 to 3) a NAME is that: of the ADDRESSES (DOMAIN, NAME) behind it.");
        bound(DOMAINS + "box # 0;", 3);
        bound(DOMAINS + "box 0 #;", 7);
        bound(DOMAINS + "alias # 0 0 0;", 3);
        bound(DOMAINS + "alias 0 # 0 0;", 7);
        bound(DOMAINS + "alias 0 0 # 0;", 3);
        bound(DOMAINS + "alias 0 0 0 #;", 7);
        bound(DOMAINS + "list # 0 0 0;", 3);
        bound(DOMAINS + "list 0 # 0 0;", 7);
        bound(DOMAINS + "list 0 0 # 0;", 3);
        bound(DOMAINS + "list 0 0 0 #;", 7);
        bound(DOMAINS + "list 0 0 3 6 3 5 3 4 # 0;", 3);
        bound(DOMAINS + "list 0 0 3 6 3 5 3 4 0 #;", 7);
    }

    /** The number at # is taken from 0 to the most, one more and more than that is a fault there. */
    private static void bound(String pattern, int most) {
        int lines = pattern.length() - pattern.replace(";", "").length();
        for (int v = 0; v <= most; v++) {
            Checks.told(lines, pattern.replace("#", Integer.toString(v)));
        }
        bounded(pattern, most);
    }

    private static void bounded(String pattern, int most) {
        for (int v = most + 1; v <= 99; v += v < 12 ? 1 : 29) {
            Checks.refused(pattern.replace("#", Integer.toString(v)), 3, pattern.indexOf('#'));
        }
        Checks.refused(pattern.replace("#", "99"), 3, pattern.indexOf('#'));
        Checks.refused(pattern.substring(0, pattern.indexOf('#')) + "99", 3, pattern.indexOf('#'));
    }

    private static void receivesAlready() {
        Checks.of(0, "4 a HOUSE that receives already (that NUMBER);");
        Checks.refused("house;house;domain 0 0 0 1;", 4, 23);
        Checks.refused("house;house;domain 0 0 1 0 1 0;", 4, 27);
        Checks.refused("house;house;domain 0 0 1 0 00 5;", 4, 27);
        Checks.refused("domain 0 0 0", 4, 11);
        Checks.told(4, "house;domain 0 0;domain 0 0;domain 0 1;");
        Checks.told(3, "house;house;domain 1 0 0 0;");
    }

    private static void toldAlready() {
        Checks.of(0, "an ADDRESS that is told already,");
        String[] first = {"box 0 3;", "alias 0 3 0 3;", "list 0 3 0 3;"};
        String[] again = {"box 0 3;", "alias 0 3 0 1;", "list 0 3 0 1;"};
        for (String one : first) {
            for (String other : again) {
                String ahead = "domain;" + one;
                int place = ahead.length() + other.indexOf('3');
                Checks.refused(ahead + other, 4, place);
                Checks.refused(ahead + "box 0 1;" + other, 4, place + 8);
                Checks.refused((ahead + other).substring(0, place + 1), 4, place);
            }
        }
        Checks.refused("domain;box 0 3;box 00 03;", 4, 22);
        Checks.refused("box 3 7;box 3 7;", 4, 14);
        Checks.told(4, "domain;domain;box 0 3;box 1 3;");
        Checks.told(4, "domain;box 0 3;box 0 4;box 0 2;");
        Checks.told(3, "domain;alias 0 1 0 2;box 0 2;");
    }

    private static void inTheListAlready() {
        Checks.of(0, "one that is in the LIST already (its NAME's NUMBER).");
        Checks.refused("domain;list 0 0 0 1 0 1;", 4, 22);
        Checks.refused("domain;list 0 0 0 1 0 2 0 1;", 4, 26);
        Checks.refused("domain;list 0 0 0 1 0 2 0 2;", 4, 26);
        Checks.refused("domain;list 0 0 0 1 0 2 0 3 0 1;", 4, 30);
        Checks.refused("domain;list 0 0 0 1 0 2 0 3 0 2;", 4, 30);
        Checks.refused("domain;list 0 0 0 1 0 2 0 3 0 3;", 4, 30);
        Checks.refused("list 0 0 0 0 0 00", 4, 15);
        Checks.told(2, "domain;list 0 0 0 1 1 1 2 1 3 1;");
        Checks.told(3, "domain;list 0 0 0 0;list 0 1 0 0 0 1;");
    }

    private static void sixthHouse() {
        Checks.of(0, "5 the 6th HOUSE, the 5th DOMAIN (its NAME).");
        Checks.told(5, HOUSES);
        Checks.refused(HOUSES + "house;", 5, 30);
        Checks.refused(HOUSES + "  house wary;", 5, 32);
        Checks.refused(HOUSES + "house", 5, 30);
        Checks.refused(HOUSES + "house.", 5, 30);
        Checks.told(4, DOMAINS);
        Checks.refused(DOMAINS + "domain;", 5, 28);
        Checks.refused(DOMAINS + " domain 0 0;", 5, 29);
        Checks.refused(DOMAINS + "domain 99", 5, 28);
        Checks.refused(HOUSES + DOMAINS + "house;", 5, 58);
        Checks.refused(HOUSES + DOMAINS + "domain;", 5, 58);
        Checks.told(9, DOMAINS + HOUSES);
    }

    private static void houseThatIsNotThere() {
        Checks.of(0, "Behind all (the length): 6 a HOUSE receives that there is not;");
        for (int n = 0; n < 5; n++) {
            String houses = "house;".repeat(n);
            Checks.refused(houses + "domain " + n + " 0;", 6, 6 * n + 11);
            Checks.refused(houses + "domain 4 0;  ", 6, 6 * n + 13);
            Checks.told(n + 2, "domain " + n + " 0;house;" + houses);
        }
        Checks.refused("house;domain;domain 0 0 1 0;", 6, 28);
        Checks.refused("house;house;domain 0 0 1 0 2 0;house wary", 2, 41);
        Checks.refused("house;house;domain 0 0 1 0 2 0;domain 0 0;", 6, 42);
        Checks.refused("domain 0 0;box 3 3;", 6, 19);
    }

    private static void domainThatIsNotThere() {
        Checks.of(0, "7 a DOMAIN of an ADDRESS that is told is not there (those that an ALIAS, a LIST leads to may be anything).");
        for (int n = 0; n < 4; n++) {
            String domains = "domain;".repeat(n);
            for (String line : new String[] {"box # 0;", "alias # 7 0 0;", "list # 0 0 0;"}) {
                String told = line.replace("#", Integer.toString(n));
                Checks.refused(domains + told, 7, domains.length() + told.length());
                Checks.refused(domains + told + " ", 7, domains.length() + told.length() + 1);
                Checks.told(n + 2, told + domains + "domain;");
            }
            Checks.refused(domains + "box 3 7;", 7, domains.length() + 8);
        }
        Checks.told(3, "domain;alias 0 0 3 7;list 0 1 1 0 2 0 3 0 0 7;");
    }

    private static void firstMet() {
        Checks.of(0, "FAULTS, the first met as it is read (a TOKEN is read when the one before has been taken):");
        Checks.refused("wary .", 2, 0);
        Checks.refused("wary 000", 2, 0);
        Checks.refused("domain 5.", 3, 7);
        Checks.refused("domain 0 10.", 3, 9);
        Checks.refused("domain 0 0 0.", 4, 11);
        Checks.refused("box 4.", 3, 4);
        Checks.refused("box 0 8.", 3, 6);
        Checks.refused("box 0 0;box 0 0.", 4, 14);
        Checks.refused("list 0 0 0 0 0 0.", 4, 15);
        Checks.refused("alias 0 0 0 8.", 3, 12);
        Checks.refused("house x.", 2, 6);
        Checks.refused("domain x.", 2, 7);
        Checks.refused("domain 0 0;box 9 0;", 3, 15);
        Checks.refused("box 3 0;box 3 0;", 4, 14);
        Checks.refused("domain 4 4;.", 1, 11);
        Checks.refused("domain 4 4;box 3 3;;", 2, 19);
    }

    private static void inPlaceOfWhatThereWas() {
        Checks.of(0, "A text that is taken tells all, in place of what there was;");
        Checks.of(0, "text: { line }   line: house [ wary ] ; | domain { N N } ; | box N N ; | alias N N N N ; | list N N { N N } ;");
        WaryHouses x = Checks.told(8, Scenes.BUSY);
        Checks.due("text()", Checks.tell(x, "house wary;domain 0 7;list 0 0 0 1;"), 3);
        Checks.answers("rule(what)", x::rule, 1, 1, 0, 0, 1);
        Checks.due("house(0, 0)", x.house(0, 0), 1);
        Checks.due("house(1, 0)", x.house(1, 0), Checks.BAD);
        Checks.row("receiver(0, i, 1)", i -> x.receiver(0, i, 1), 7);
        Checks.due("receiver(1, 0, 0)", x.receiver(1, 0, 0), Checks.BAD);
        Checks.answers("address(a, 0)", a -> x.address(a, 0), 3, 0, 0, 0, 0, 0, 0, 0, 0);
        Checks.row("leads(0, i)", i -> x.leads(0, i), 1);
        Checks.row("leads(2, i)", i -> x.leads(2, i));
        Checks.due("text() of none", x.text(), 0);
        Checks.answers("rule(what)", x::rule, 0, 0, 0, 0, 0);
        Checks.due("house(0, 0)", x.house(0, 0), Checks.BAD);
        Checks.due("receiver(0, 0, 0)", x.receiver(0, 0, 0), Checks.BAD);
        Checks.due("address(0, 0)", x.address(0, 0), 0);
        Checks.row("leads(0, i)", i -> x.leads(0, i));
    }

    private static void anew() {
        Checks.of(0, "ANEW: nothing is on its way, CLOCK is 0, BOXES are empty, no HOUSE knows a STRANGER, all are UP, THE LOG"
                + " is empty, all counts are 0, IMAGES are gone (SHEETS stay).");
        WaryHouses busy = Scenes.busy();
        for (int what = 5; what <= 17; what++) {
            Checks.yes("there is something of rule(" + what + ")", busy.rule(what) > 0);
        }
        Checks.due("a box that was given", busy.address(8, 1), 1);
        Checks.due("a stranger", busy.house(1, 3), 2);
        Checks.due("a stranger that passed", busy.house(1, 4), 1);
        Checks.due("a house that is down", busy.house(1, 1), 0);
        Checks.due("an image", busy.count(0), 1);
        Snapshot.same("anew", Snapshot.of(EdgesOfText::sheetsAlone), Snapshot.of(() -> retold(Scenes.busy())));
        WaryHouses x = retold(Scenes.busy());
        Checks.due("lay(3, 39, 1), sheets stay", x.lay(3, 39, 1), 1);
        Checks.due("lay(1, 0, 1)", x.lay(1, 0, 1), -11);
        Checks.due("post(0, 0, 0, 2), with their cells", x.post(0, 0, 0, 2), 2);
        Checks.item(x, 0, 0, 0, 3, 0, 0, 0, 1, 0);
        Checks.item(x, 0, 1, 1, 0, 9, 0, 0, 1, 0);
        WaryHouses wary = Scenes.wary();
        Checks.answers("house(h, 3)", h -> wary.house(h, 3), 1, 1, 1, 1, 1);
        Checks.tell(wary, Scenes.WARY);
        Checks.answers("house(h, 3), anew", h -> wary.house(h, 3), 0, 0, 0, 0, 0);
        Checks.answers("house(h, 2), anew", h -> wary.house(h, 2), 0, 0, 0, 0, 0);
        wary.send(2, 5, 0);
        wary.tick(1);
        Checks.stranger(wary, 0, 0, 2, 5, 0, 1, 0);
        WaryHouses empty = Scenes.busy();
        empty.end(0);
        empty.text();
        Checks.due("back(1) behind an empty text", empty.back(1), Checks.STATE);
        Checks.due("rule(5) behind an empty text", empty.rule(5), 0);
        Checks.due("log(0, 0) behind an empty text", empty.log(0, 0), Checks.NONE);
    }

    private static WaryHouses retold(WaryHouses x) {
        x.end(0);
        Scenes.feedQuietly(x, Scenes.BUSY);
        x.text();
        return x;
    }

    private static WaryHouses sheetsAlone() {
        WaryHouses x = Scenes.of(Scenes.BUSY);
        x.sheet(0, 1, 6);
        return x;
    }
}
