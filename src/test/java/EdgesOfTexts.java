/** Edges of promises 1 to 5: the tape, the text of a store, its faults. */
final class EdgesOfTexts {
    private static final String STORE = "store hold 3 sleeps 50;";
    private static final String ONE = STORE + "cellar a giver 3";
    private static final String FOUR_OF_ONE = STORE + "cellar a giver 1;cellar b banker 1;cellar c miser 1;cellar d steward 1";
    private static final String SIX_SEEN = ONE + ";seen a night 1 heaps 3;seen a night 2 heaps 3;seen a night 3 heaps 3"
            + ";seen a night 4 heaps 3;seen a night 5 heaps 3;seen a night 6 heaps 3";
    private static final int BLANKS = 0x20202020;

    // A store with a line of each sort, and what each of its tokens is.
    private static final String[] TOKENS = ("store hold 3 sleeps 50 ; cellar a giver 3 ; unsure a 4 ; seen a night 5 heaps 2").split(" ");
    private static final String[] SORTS = ("line word whole word whole ; line name law heap ; line name whole ; "
            + "line name word whole word whole").split(" ");

    private EdgesOfTexts() {
    }

    // ---- promise 1

    @Edge(promise = 1, says = "No STORE.")
    static void nothingIsThereAtFirst() {
        StewardHeaps x = new StewardHeaps();
        for (int what = 0; what <= 9; what++) {
            Checks.due("size(" + what + ")", x.size(what), 0);
        }
        Checks.due("trouble()", x.trouble(), 0);
        Checks.due("fault()", x.fault(), 0);
        Checks.due("where()", x.where(), -1);
        Checks.refused(x, "cellar(0, 0)", x.cellar(0, 0), -1, 1);
        Checks.refused(x, "fits()", x.fits(), -1, 1);
        Checks.refused(x, "night()", x.night(), -1, 1);
        Checks.refused(x, "undo()", x.undo(), 6);
        Checks.refused(x, "back(0)", x.back(0), 1);
        Checks.noneLed(x, 0);
    }

    @Edge(promise = 1, says = "An object is used for at most 512 calls after it has been made")
    static void theLastOfAllCallsAnswers() {
        StewardHeaps x = Texts.of(Texts.FOUR);
        int calls = (Texts.FOUR.length() + 19) / 20 + 1;
        int nights = 0;
        for (; calls < 511; calls++) {
            x.night();
            nights++;
        }
        Checks.due("the 512th call: nights gone by", x.size(5), nights);
    }

    // ---- promise 2

    @Edge(promise = 2, says = "Twenty bytes come behind THE TAPE, of each number the highest first: how many it has")
    static void twentyBytesComeInTheirOrder() {
        StewardHeaps x = new StewardHeaps();
        // "stor", "e ho", "ld 3", " sle", "eps "
        Checks.due("feed", x.feed(0x73746f72, 0x6520686f, 0x6c642033, 0x20736c65, 0x65707320), 20);
        // "50;c", "ella", "r a ", "give", "r 3 "
        Checks.due("feed", x.feed(0x35303b63, 0x656c6c61, 0x72206120, 0x67697665, 0x72203320), 40);
        Checks.due("size(9)", x.size(9), 40);
        Checks.answered(x, "store(40)", x.store(40), 1);
        Checks.due("its heap", x.heap(0, 0), 3);
    }

    @Edge(promise = 2, says = "of each number the highest first")
    static void numbersBelowNoughtHaveFourBytesToo() {
        StewardHeaps x = new StewardHeaps();
        // "stor", then bytes 0xe5, 0x20, 0x20, 0x20 in a number below 0
        x.feed(0x73746f72, 0xe5202020, BLANKS, BLANKS, BLANKS);
        x.store(20);
        Checks.due("a word that is none, ahead of the byte 0xe5", x.where(), 0);
        Texts.feed(x, "store hold 3 sleeps  ");
        x.feed(0xffffffff, Integer.MIN_VALUE, BLANKS, BLANKS, BLANKS);
        x.store(60);
        Checks.due("the first byte of -1", x.where(), 40);
        Texts.feed(x, "store hold 3 sleeps ");
        x.feed(0x20202080, BLANKS, BLANKS, BLANKS, BLANKS);
        x.store(40);
        Checks.due("the lowest byte, 0x80", x.where(), 23);
        Texts.feed(x, "store hold 3 sleeps ");
        x.feed(-BLANKS, BLANKS, BLANKS, BLANKS, BLANKS);
        x.store(40);
        Checks.due("the first byte of blanks below 0", x.where(), 20);
    }

    @Edge(promise = 2, says = "THE TAPE has 900 bytes")
    static void tapeIsFedUpToItsLastByte() {
        StewardHeaps x = new StewardHeaps();
        int blanks = 900 - ONE.length();
        Texts.feed(x, " ".repeat(blanks) + ONE);
        Checks.due("size(9)", x.size(9), 900);
        Checks.answered(x, "store(900)", x.store(900), 1);
        Texts.feed(x, ONE + " ".repeat(blanks - 1) + "!");
        x.store(900);
        Checks.due("a fault at the last byte", x.where(), 899);
    }

    @Edge(promise = 2, says = "NONE, and none comes, if there would be more than 900")
    static void fullTapeTakesNoMore() {
        StewardHeaps x = new StewardHeaps();
        Texts.feed(x, ONE);
        for (int bytes = x.size(9) + 20; bytes <= 900; bytes += 20) {
            Checks.due("feed", x.feed(BLANKS, BLANKS, BLANKS, BLANKS, BLANKS), bytes);
        }
        Checks.due("feed beyond 900", x.feed(0, 0, 0, 0, 0), -1);
        Checks.due("feed beyond 900 again", x.feed(0, 0, 0, 0, 0), -1);
        Checks.due("size(9)", x.size(9), 900);
        Checks.refused(x, "store(901)", x.store(901), -1, 2);
        Checks.answered(x, "nothing has come", x.store(900), 1);
        Checks.due("feed of an empty tape", x.feed(0, 0, 0, 0, 0), 20);
    }

    // ---- promise 3, what it does

    @Edge(promise = 3, says = "The first n bytes of THE TAPE")
    static void bytesBehindTheFirstAreNotRead() {
        StewardHeaps x = new StewardHeaps();
        Texts.feed(x, ONE + "!!;");
        Checks.answered(x, "faults behind the first bytes", x.store(ONE.length()), 1);
        Texts.feed(x, ONE + "0 7");
        Checks.answered(x, "a digit more of the last whole", x.store(ONE.length()), 1);
        Checks.due("the height", x.heap(0, 0), 3);
        Texts.feed(x, ONE + "0 7");
        Checks.answered(x, "with that digit", x.store(ONE.length() + 1), 1);
        Checks.due("the height", x.heap(0, 0), 30);
    }

    @Edge(promise = 3, says = "The first n bytes of THE TAPE")
    static void noBytesAreAnEmptyText() {
        StewardHeaps x = new StewardHeaps();
        Texts.feed(x, ONE);
        Checks.refused(x, "store(0)", x.store(0), -1, 4);
        Checks.due("fault()", x.fault(), 1);
        Checks.due("size(9)", x.size(9), 0);
        Checks.refused(x, "store(0) of an empty tape", x.store(0), -1, 4);
    }

    @Edge(promise = 3, says = "(it is empty then)")
    static void tapeIsEmptyBehindEachReading() {
        StewardHeaps x = new StewardHeaps();
        Texts.feed(x, ONE + "!!");
        x.store(ONE.length());
        Checks.due("size(9) behind a store", x.size(9), 0);
        Checks.refused(x, "store(1) of an empty tape", x.store(1), -1, 2);
        Texts.feed(x, "store");
        x.store(3);
        Checks.due("size(9) behind a fault", x.size(9), 0);
        Checks.refused(x, "store(1) of an empty tape", x.store(1), -1, 2);
        Texts.feed(x, ONE);
        Checks.answered(x, "what comes next begins at 0", x.store(ONE.length()), 1);
    }

    @Edge(promise = 3, says = "(no night gone by; nothing to undo, no IMAGES)")
    static void storeBeginsAnew() {
        StewardHeaps x = Texts.of(Texts.FOUR);
        x.night();
        x.image();
        x.add(0, 7);
        Texts.tell(x, Texts.FOUR);
        Checks.due("nights gone by", x.size(5), 0);
        Checks.due("acts that can be undone", x.size(7), 0);
        Checks.due("images", x.size(8), 0);
        Checks.refused(x, "undo()", x.undo(), 6);
        Checks.refused(x, "back(0)", x.back(0), 1);
        Checks.heapsAre(x, 0, 3, 1);
        Checks.due("held", x.cellar(1, 4), 0);
        Checks.due("the first image", x.image(), 0);
    }

    @Edge(promise = 3, says = "are the STORE from now on")
    static void nothingOfEarlierTextsIsLeft() {
        String many = Texts.FOUR + ";unsure a 1;unsure b 1;unsure c 1;unsure d 1;seen a night 0 heaps 9;seen b night 9 heaps 9";
        String few = "store hold 9 sleeps 0;cellar d miser 1;cellar c giver 2 1;unsure c 2;seen c night 0 heaps 3";
        String due = Texts.stateOf(Texts.of(few));
        for (String[] ahead : new String[][] {{many}, {many, many}, {many, ONE}, {many + ";"}, {many, many + ";"}, {many + ";", many}}) {
            StewardHeaps x = new StewardHeaps();
            for (String text : ahead) {
                Texts.tell(x, text);
            }
            Checks.answered(x, "store", Texts.tell(x, few), 2);
            Checks.due("all", Texts.stateOf(x), due);
            Checks.answered(x, "fits()", x.fits(), 1);
            Checks.answered(x, "fitAt(0)", x.fitAt(0), 1);
            Checks.answered(x, "judge()", x.judge(), 0);
        }
    }

    @Edge(promise = 3, says = "how many cellars")
    static void fewerCellarsThanAhead() {
        StewardHeaps x = Texts.of(Texts.FOUR + ";unsure a 1;seen a night 1 heaps 1");
        Checks.answered(x, "store", Texts.tell(x, ONE), 1);
        Checks.due("cellars", x.size(2), 1);
        Checks.due("unsure ones", x.size(3), 0);
        Checks.due("seen", x.size(4), 0);
        Checks.due("stones", x.size(6), 3);
        Checks.refused(x, "heap(1, 0)", x.heap(1, 0), -1, 1);
    }

    @Edge(promise = 3, says = "NONE: 2 (THE TAPE stays)")
    static void moreBytesThanThereAre() {
        StewardHeaps x = new StewardHeaps();
        Checks.refused(x, "store(1) of a new object", x.store(1), -1, 2);
        Texts.feed(x, ONE);
        int size = x.size(9);
        for (int n : new int[] {-1, size + 1, 900, 901, Integer.MIN_VALUE, Integer.MAX_VALUE}) {
            Checks.refused(x, "store(" + n + ")", x.store(n), -1, 2);
            Checks.due("size(9)", x.size(9), size);
        }
        Checks.due("no store", x.size(2), 0);
        Checks.answered(x, "all that there are", x.store(size), 1);
    }

    @Edge(promise = 3, says = "4 (the STORE stays)")
    static void storeStaysByAFault() {
        StewardHeaps x = Texts.of(Texts.FOUR + ";unsure a 2;unsure b 1;seen a night 1 heaps 2;seen b night 2 heaps 3");
        x.image();
        x.night();
        x.add(0, 5);
        String before = Texts.stateOf(x);
        Checks.refused(x, "store", Texts.tell(x, "store hold 9 sleeps 9;cellar z miser 1 1;unsure z 1;seen z night 1 heaps 1;"), -1, 4);
        Checks.due("all", Texts.stateOf(x), before);
        Checks.due("fitAt(0)", x.fitAt(0), 2);
        Checks.due("judge()", x.judge(), 1);
        Checks.due("undo()", x.undo(), true);
        Checks.heapsAre(x, 0, 2, 2);
        Checks.due("back(0)", x.back(0), true);
        Checks.heapsAre(x, 0, 3, 1);
    }

    // ---- promise 3, tokens

    @Edge(promise = 3, says = "blanks, 32, part TOKENS and mean nothing else")
    static void blanks() {
        Texts.sound("   store   hold  3   sleeps 50  ;  cellar  a   giver  3  ", 1);
        Texts.sound("store hold3sleeps50;cellar a giver3;unsure a4;seen a night5heaps2", 1);
        Texts.faulty(1, "^st ore hold 3 sleeps 50;cellar a giver 3");
        Texts.faulty(1, "store hold 3 sleeps 5 ^0;cellar a giver 3");
        Texts.faulty(1, "^storehold 3 sleeps 50;cellar a giver 3");
    }

    @Edge(promise = 3, says = "the first byte that begins no TOKEN")
    static void bytesThatBeginNoToken() {
        for (int sign = 0; sign < 256; sign++) {
            boolean letter = sign >= 'a' && sign <= 'z';
            String text = "store hold 3 sleeps" + (char) sign + "50;cellar a giver 3";
            if (sign == ' ' || sign == '0') {
                Texts.sound(text, 1);
            } else if (sign >= '1' && sign <= '9') {
                Texts.faulty(4, text, 19);
            } else {
                Texts.faulty(1, text, letter ? 13 : 19);
            }
            if (!letter && sign != ' ') {
                Texts.faulty(1, STORE + "cellar " + (char) sign, 30);
            }
            if (!letter && sign != ' ' && sign != ';' && (sign < '0' || sign > '9')) {
                Texts.faulty(1, ONE + (char) sign + "unsure a 3", ONE.length());
            }
        }
        Texts.faulty(1, STORE + "cellar a^{ giver 3");
        Texts.faulty(1, ONE + "^-");
    }

    @Edge(promise = 3, says = "TOKENS: WORDS of 1 to 8 small letters that stand together")
    static void wordsOfOneToEightLetters() {
        Texts.sound(STORE + "cellar a giver 3;cellar z giver 3", 2);
        Texts.sound(STORE + "cellar abcdefgh giver 3;cellar abcdefgi giver 3;unsure abcdefgh 1", 2);
        Texts.sound(STORE + "cellar ab giver 3;cellar a giver 3;cellar b giver 3;seen b night 1 heaps 1", 3);
        Texts.faulty(1, STORE + "cellar ^abcdefghi giver 3");
        Texts.faulty(1, STORE + "cellar ^A giver 3");
    }

    @Edge(promise = 3, says = "WHOLES of 1 to 3 digits that do")
    static void wholesOfOneToThreeDigits() {
        StewardHeaps x = Texts.sound("store hold 003 sleeps 007;cellar a giver 03 010", 1);
        Checks.due("hold", x.size(0), 3);
        Checks.due("sleeps", x.size(1), 7);
        Checks.heapsAre(x, 0, 10, 3);
        Texts.faulty(1, "store hold ^0003 sleeps 50;cellar a giver 3");
        Texts.faulty(1, STORE + "cellar a giver 3 ^0003");
    }

    @Edge(promise = 3, says = "(of more letters, digits that stand together: the first of them)")
    static void moreLettersOrDigitsAreOneFaultAtTheFirst() {
        Texts.faulty(1, "store ^holdsleep 3 sleeps 50;cellar a giver 3");
        Texts.faulty(1, "store ^holdhold3");
        Texts.faulty(1, "store ^" + "x".repeat(500));
        Texts.faulty(1, "store hold ^1234");
        Texts.faulty(1, "store hold ^" + "3".repeat(500));
        Texts.faulty(1, ONE + " ^3000 !");
    }

    @Edge(promise = 3, says = "single ones of ;")
    static void eachMarkStandsAlone() {
        Texts.faulty(1, "store hold 3 sleeps 50;^;cellar a giver 3");
        Texts.faulty(1, ONE + " ; ^; cellar b giver 3");
        Texts.faulty(1, STORE + "cellar a^; giver 3");
    }

    // ---- promise 3, lines

    @Edge(promise = 3, says = "LINE {; LINE}")
    static void linesArePartedAndNoneIsEmpty() {
        Texts.faulty(1, "^;" + ONE);
        Texts.faulty(1, ONE + ";^");
        Texts.faulty(1, ONE + " ;  ^");
        Texts.faulty(1, "store hold 3 sleeps 50 ^cellar a giver 3");
        Texts.faulty(1, ONE + " ^cellar b giver 3");
        Texts.faulty(1, ONE + ";unsure a 3 ^seen a night 1 heaps 1");
    }

    @Edge(promise = 3, says = "TOKEN with which no STORE goes on")
    static void eachTokenOfAnotherSort() {
        String[] others = {"zz", "7", ";", "store", "cellar", "unsure", "seen", "hold", "sleeps", "night", "heaps", "giver"};
        for (int i = 0; i < TOKENS.length; i++) {
            String ahead = String.join(" ", java.util.Arrays.copyOf(TOKENS, i));
            for (String other : others) {
                if (!goesOn(SORTS[i], TOKENS[i], other) && !(i == 10 && other.equals("7"))) {
                    Texts.faulty(1, ahead + " ^" + other + " 7 zz");
                }
            }
        }
    }

    private static boolean goesOn(String sort, String token, String other) {
        boolean opens = "store cellar unsure seen".contains(other);
        boolean word = other.charAt(0) >= 'a' && other.charAt(0) <= 'z';
        switch (sort) {
            case "line":
                return opens;
            case "name":
                return word && !opens;
            case "law":
                return other.equals("giver");
            case "whole":
            case "heap":
                return other.equals("7");
            default:
                return other.equals(token);
        }
    }

    @Edge(promise = 3, says = "(the end: its place)")
    static void eachEndTooEarly() {
        for (int i = 0; i < TOKENS.length; i++) {
            String ahead = String.join(" ", java.util.Arrays.copyOf(TOKENS, i));
            boolean whole = SORTS[i].equals(";");
            if (!whole) {
                Texts.faulty(1, ahead + "^");
                Texts.faulty(1, ahead + "   ^");
            } else if (i > 5) {
                Texts.sound(ahead, 1);
            }
        }
        Texts.sound(String.join(" ", TOKENS), 1);
        Texts.faulty(1, " ".repeat(900) + "^");
    }

    @Edge(promise = 3, says = "store hold WHOLE sleeps WHOLE (2 .. 9;")
    static void holdOfTwoToNine() {
        Texts.faulty(4, "store hold ^0 sleeps 50;cellar a giver 3");
        Texts.faulty(4, "store hold ^1 sleeps 50;cellar a giver 3");
        Checks.due("hold", Texts.sound("store hold 2 sleeps 50;cellar a giver 3", 1).size(0), 2);
        Checks.due("hold", Texts.sound("store hold 9 sleeps 50;cellar a giver 3", 1).size(0), 9);
        Texts.faulty(4, "store hold ^10 sleeps 50;cellar a giver 3");
        Texts.faulty(4, "store hold ^999 sleeps 50;cellar a giver 3");
    }

    @Edge(promise = 3, says = "0 .. 100 in a hundred)")
    static void sleepsOfNoughtToAHundred() {
        Checks.due("sleeps", Texts.sound("store hold 3 sleeps 0;cellar a giver 3", 1).size(1), 0);
        Checks.due("sleeps", Texts.sound("store hold 3 sleeps 100;cellar a giver 3", 1).size(1), 100);
        Texts.faulty(4, "store hold 3 sleeps ^101;cellar a giver 3");
        Texts.faulty(4, "store hold 3 sleeps ^999;cellar a giver 3");
    }

    @Edge(promise = 3, says = "(LAW: steward, banker, miser, or giver;")
    static void noOtherLaws() {
        Texts.sound(STORE + "cellar a steward 1;cellar b banker 1;cellar c miser 1;cellar d giver 1", 4);
        Texts.sound(STORE + "cellar steward steward 1;cellar giver giver 1", 2);
        for (String other : new String[] {"stewards", "bank", "misers", "give", "a", "night"}) {
            Texts.faulty(1, STORE + "cellar a ^" + other + " 3");
        }
    }

    @Edge(promise = 3, says = "heaps, in whatever order")
    static void heapsInWhateverOrder() {
        Checks.heapsAre(Texts.sound(STORE + "cellar a giver 2 7 1 7", 1), 0, 7, 7, 2, 1);
        Checks.heapsAre(Texts.sound(STORE + "cellar a giver 1 2 3 4 5 6 7 8", 1), 0, 8, 7, 6, 5, 4, 3, 2, 1);
    }

    @Edge(promise = 3, says = "each of 1 .. 30 stones")
    static void heapsOfOneToThirty() {
        Texts.faulty(4, STORE + "cellar a giver ^0");
        Texts.faulty(4, STORE + "cellar a giver 3 ^0 3");
        Checks.heapsAre(Texts.sound(STORE + "cellar a giver 1", 1), 0, 1);
        Checks.heapsAre(Texts.sound(STORE + "cellar a giver 30", 1), 0, 30);
        Texts.faulty(4, STORE + "cellar a giver ^31");
        Texts.faulty(4, STORE + "cellar a giver 3 ^31");
    }

    @Edge(promise = 3, says = "up to 8 heaps")
    static void upToEightHeaps() {
        Checks.heapsAre(Texts.sound(STORE + "cellar a giver 1 1 1 1 1 1 1 1;cellar b giver 2 2 2 2 2 2 2 2", 2), 1,
                2, 2, 2, 2, 2, 2, 2, 2);
        Texts.faulty(5, STORE + "cellar a giver 1 1 1 1 1 1 1 1 ^1");
        Texts.faulty(5, STORE + "cellar a giver 1;cellar b giver 1 1 1 1 1 1 1 1 ^1 0");
    }

    @Edge(promise = 3, says = "up to 40 stones")
    static void upToFortyStones() {
        Checks.heapsAre(Texts.sound(STORE + "cellar a giver 10 30", 1), 0, 30, 10);
        Checks.due("stones", Texts.sound(STORE + "cellar a giver 5 5 5 5 5 5 5 5;cellar b giver 30 10", 2).size(6), 80);
        Texts.faulty(4, STORE + "cellar a giver 30 ^11");
        Texts.faulty(4, STORE + "cellar a giver 30 10 ^1");
    }

    @Edge(promise = 3, says = "heaps; up to 40 stones; up to 4)")
    static void upToFourCellars() {
        Texts.sound(FOUR_OF_ONE, 4);
        Texts.faulty(5, FOUR_OF_ONE + ";^cellar e giver 1");
        Texts.faulty(5, FOUR_OF_ONE + ";unsure d 1;^cellar e giver 1");
    }

    @Edge(promise = 3, says = "(which may have had, at first, a heap more, of 1 .. 9;")
    static void heapMoreOfOneToNine() {
        Texts.faulty(4, ONE + ";unsure a ^0");
        Texts.sound(ONE + ";unsure a 1", 1);
        Texts.sound(ONE + ";unsure a 9", 1);
        Texts.faulty(4, ONE + ";unsure a ^10");
        Texts.sound(STORE + "cellar a giver 5 5 5 5 5 5 5 5;unsure a 9", 1);
    }

    @Edge(promise = 3, says = "each once)")
    static void eachCellarIsUnsureOnce() {
        Checks.due("unsure ones", Texts.sound(FOUR_OF_ONE + ";unsure c 1;unsure a 2;unsure d 1;unsure b 9", 4).size(3), 4);
        Texts.faulty(3, FOUR_OF_ONE + ";unsure c 1;unsure a 2;unsure ^c 1");
    }

    @Edge(promise = 3, says = "(0 .. 99;")
    static void nightsSeenOfNoughtTo99() {
        Texts.sound(ONE + ";seen a night 0 heaps 3;seen a night 99 heaps 3", 1);
        Texts.faulty(4, ONE + ";seen a night ^100 heaps 3");
        Texts.faulty(4, ONE + ";seen a night ^999 heaps 3");
    }

    @Edge(promise = 3, says = "0 .. 60;")
    static void heapsSeenOfNoughtTo60() {
        Texts.sound(ONE + ";seen a night 1 heaps 0;seen a night 2 heaps 60", 1);
        Texts.faulty(4, ONE + ";seen a night 1 heaps ^61");
        Texts.faulty(4, ONE + ";seen a night 1 heaps ^999");
    }

    @Edge(promise = 3, says = "each night of a CELLAR once")
    static void eachNightOfACellarOnce() {
        Texts.sound(FOUR_OF_ONE + ";seen a night 3 heaps 1;seen b night 3 heaps 1;seen a night 30 heaps 1", 4);
        Texts.faulty(3, FOUR_OF_ONE + ";seen a night 3 heaps 1;seen b night 3 heaps 1;seen a night ^3 heaps 1");
        Texts.faulty(3, FOUR_OF_ONE + ";seen b night 0 heaps 1;seen b night ^000 heaps 9");
    }

    @Edge(promise = 3, says = "each night of a CELLAR once; up to 6)")
    static void upToSixSeen() {
        Checks.due("seen", Texts.sound(SIX_SEEN, 1).size(4), 6);
        Texts.faulty(5, SIX_SEEN + ";^seen a night 7 heaps 3");
        Texts.faulty(5, SIX_SEEN + ";unsure a 3;^seen a night 7 heaps 3");
    }

    @Edge(promise = 3, says = "NAMES are WORDS but store, cellar, unsure, seen")
    static void fourWordsAreNoNames() {
        for (String word : new String[] {"store", "cellar", "unsure", "seen"}) {
            Texts.faulty(1, STORE + "cellar ^" + word + " giver 3");
            Texts.faulty(1, ONE + ";unsure ^" + word + " 3");
            Texts.faulty(1, ONE + ";seen ^" + word + " night 3 heaps 1");
        }
        Texts.sound(STORE + "cellar hold giver 1;cellar sleeps giver 1;cellar night giver 1;cellar heaps giver 1"
                + ";unsure night 3;seen heaps night 3 heaps 1", 4);
        Texts.sound(STORE + "cellar stores giver 1;cellar cella giver 1;cellar unsur giver 1;cellar see giver 1", 4);
    }

    // ---- promise 3, faults

    @Edge(promise = 3, says = "FAULTS, the first that is met from the left")
    static void firstFaultFromTheLeft() {
        Texts.faulty(4, "store hold ^1 sleeps 101;cellar seen");
        Texts.faulty(1, "store hold 3 ^! sleeps 101");
        Texts.faulty(2, STORE + "cellar a giver 3;unsure ^b 10;cellar a giver 3");
        Texts.faulty(4, STORE + "cellar a giver 3;unsure a ^10;unsure b 1");
        Texts.faulty(3, STORE + "cellar a giver 3;cellar ^a giver 31 toolongword");
        Texts.faulty(5, FOUR_OF_ONE + ";^cellar a nothing 0");
        Texts.faulty(6, "^cellar toolongword 0");
        Texts.faulty(4, STORE + "cellar a giver 1 1 1 1 1 1 1 ^31 1");
        Texts.faulty(5, STORE + "cellar a giver 1 1 1 1 1 1 1 1 ^1 31");
    }

    @Edge(promise = 3, says = "of one place the least number: 1 FORM")
    static void ofOnePlaceTheLeastNumber() {
        Texts.faulty(1, "^");
        Texts.faulty(1, "store hold 3 sleeps 50;^");
        Texts.faulty(1, "store hold 3 sleeps ^");
        Texts.faulty(4, STORE + "cellar a giver 1 1 1 1 1 1 1 1 ^31");
        Texts.faulty(4, STORE + "cellar a giver 5 5 5 5 5 5 5 5 ^1");
        Texts.faulty(4, STORE + "cellar a giver 1 1 1 1 1 1 1 1 ^0");
    }

    @Edge(promise = 3, says = "each told once, ahead of its use")
    static void namesAreToldAheadOfTheirUse() {
        Texts.faulty(2, STORE + "unsure ^a 3;cellar a giver 3");
        Texts.faulty(2, ONE + ";seen ^b night 1 heaps 1;cellar b giver 3");
        StewardHeaps x = Texts.of(FOUR_OF_ONE);
        Checks.refused(x, "a name of the store ahead", Texts.tell(x, STORE + "cellar z giver 3;unsure a 3"), -1, 4);
        Checks.due("fault()", x.fault(), 2);
    }

    @Edge(promise = 3, says = "2 a NAME that isn't told; at it")
    static void namesThatAreNotTold() {
        Texts.faulty(2, STORE + "unsure ^a");
        Texts.faulty(2, STORE + "seen ^a");
        Texts.faulty(2, STORE + "cellar ab giver 3;unsure ^a 3");
        Texts.faulty(2, STORE + "cellar ab giver 3;unsure ^abc 3");
        Texts.faulty(2, STORE + "cellar ab giver 3;seen ^b night 1 heaps 1");
        Texts.faulty(2, STORE + "cellar ab giver 3;seen ^ac night 1 heaps 1");
    }

    @Edge(promise = 3, says = "3 a NAME told again; at it;")
    static void namesToldAgain() {
        Texts.faulty(3, ONE + ";cellar ^a giver 3");
        Texts.faulty(3, ONE + ";cellar ^a");
        Texts.faulty(3, STORE + "cellar a giver 3;cellar b giver 3;cellar c giver 3;cellar ^b giver 3");
        Texts.sound(STORE + "cellar a giver 3;cellar aa giver 3;cellar aaa giver 3", 3);
    }

    @Edge(promise = 3, says = "a CELLAR unsure already; at it;")
    static void unsureAlready() {
        Texts.faulty(3, ONE + ";unsure a 3;unsure ^a 3");
        Texts.faulty(3, ONE + ";unsure a 3;unsure ^a 10");
        Texts.faulty(3, FOUR_OF_ONE + ";unsure d 3;unsure b 4;unsure ^b");
    }

    @Edge(promise = 3, says = "a night of a CELLAR seen already; at it;")
    static void nightSeenAlready() {
        Texts.faulty(3, ONE + ";seen a night 3 heaps 1;seen a night ^3 heaps 1");
        Texts.faulty(3, ONE + ";seen a night 3 heaps 1;seen a night ^03");
        Texts.faulty(3, SIX_SEEN.replace("night 6", "night ^1"));
    }

    @Edge(promise = 3, says = "a second store: at that WORD.")
    static void secondStore() {
        Texts.faulty(3, "store hold 3 sleeps 50;^store hold 3 sleeps 50");
        Texts.faulty(3, ONE + "; ^store hold 3 sleeps 50");
        Texts.faulty(3, ONE + ";unsure a 3;^store");
    }

    @Edge(promise = 3, says = "4 a WHOLE out of bounds, a heap by which there are more than 40 stones; at it.")
    static void wholesOutOfBounds() {
        Texts.faulty(4, STORE + "cellar a giver 3 ^31 1");
        Texts.faulty(4, STORE + "cellar a giver 10 10 10 9 ^2 1");
        Texts.faulty(4, STORE + "cellar a giver 10 10 10 10;cellar b giver 10 10 10 10 ^1");
        Texts.faulty(4, STORE + "cellar a giver 30 ^30");
        Texts.faulty(4, ONE + ";unsure a  ^10 ;unsure a 1");
    }

    @Edge(promise = 3, says = "5 MANY: a LINE more of its sort than there is room for, at its first WORD; a ninth heap; at it.")
    static void moreThanThereIsRoomFor() {
        Texts.faulty(5, FOUR_OF_ONE + "; ^cellar a giver 1");
        Texts.faulty(5, FOUR_OF_ONE + ";^cellar");
        Texts.faulty(5, SIX_SEEN + "; ^seen b night 100 heaps 61");
        Texts.faulty(5, SIX_SEEN + ";^seen");
        Texts.faulty(5, STORE + "cellar a giver 5 5 5 5 5 5 5 4 ^1 1");
    }

    @Edge(promise = 3, says = "6 LACKS: any LINE ahead of the store; at its WORD;")
    static void linesAheadOfTheStore() {
        Texts.faulty(6, "^cellar a giver 3;store hold 3 sleeps 50");
        Texts.faulty(6, "  ^unsure a 3");
        Texts.faulty(6, "^seen");
    }

    @Edge(promise = 3, says = ", ahead of all others")
    static void storeIsTheFirstLine() {
        Texts.faulty(6, "^cellar a giver 3;store hold 3 sleeps 50;cellar b giver 3");
        Texts.faulty(6, " ^seen a night 0 heaps 1;" + ONE);
        Texts.sound(ONE, 1);
    }

    @Edge(promise = 3, says = "at the end: no cellar.")
    static void noCellarAtTheEnd() {
        Texts.faulty(6, "store hold 3 sleeps 50^");
        Texts.faulty(6, "store hold 3 sleeps 50   ^");
        StewardHeaps x = new StewardHeaps();
        Texts.tell(x, "store hold 3 sleeps 50");
        Checks.due("no store by it", x.size(0), 0);
    }

    // ---- promises 4 and 5

    @Edge(promise = 4, says = "The FAULT of the latest store() not refused by 2")
    static void faultOfTheLatestReading() {
        StewardHeaps x = new StewardHeaps();
        Texts.tell(x, "store hold 1");
        Checks.due("fault()", x.fault(), 4);
        x.store(1);
        Checks.due("fault() behind a refusal by 2", x.fault(), 4);
        x.store(-1);
        Checks.due("fault() behind a refusal by 2", x.fault(), 4);
        Texts.tell(x, "cellar");
        Checks.due("fault() of another text", x.fault(), 6);
        x.night();
        x.undo();
        Checks.due("fault() behind other refusals", x.fault(), 6);
    }

    @Edge(promise = 4, says = "0 without one")
    static void noFault() {
        StewardHeaps x = new StewardHeaps();
        Checks.due("fault() of a new object", x.fault(), 0);
        x.store(1);
        Checks.due("fault() behind a refusal by 2 alone", x.fault(), 0);
        Texts.tell(x, "store hold 1");
        Texts.tell(x, ONE);
        Checks.due("fault() behind a store", x.fault(), 0);
    }

    @Edge(promise = 5, says = "Its place, if the latest call that may be refused was by 4")
    static void placeOfTheLatestFault() {
        StewardHeaps x = new StewardHeaps();
        x.store(0);
        Checks.due("where() at 0", x.where(), 0);
        Texts.tell(x, "store hold 1");
        Checks.due("where()", x.where(), 11);
        Checks.due("where() again", x.where(), 11);
        Texts.tell(x, " ".repeat(890) + "store hold");
        Checks.due("where() at 900", x.where(), 900);
        x.size(99);
        x.fault();
        x.trouble();
        Checks.noneLed(x, 0);
        x.feed(BLANKS, BLANKS, BLANKS, BLANKS, BLANKS);
        Checks.due("where() behind calls of which no number is told", x.where(), 900);
    }

    @Edge(promise = 5, says = "NONE else")
    static void noPlaceElse() {
        StewardHeaps x = new StewardHeaps();
        Checks.due("where() of a new object", x.where(), -1);
        Texts.tell(x, "store hold 1");
        x.store(1);
        Checks.due("where() behind a refusal by 2", x.where(), -1);
        Texts.tell(x, "store hold 1");
        x.undo();
        Checks.due("where() behind another refusal", x.where(), -1);
        Texts.tell(x, "store hold 1");
        Texts.tell(x, ONE);
        Checks.due("where() behind a store", x.where(), -1);
        Texts.tell(x, "store hold 1");
        x.heap(0, 0);
        Checks.due("where() behind an answer", x.where(), -1);
    }
}
