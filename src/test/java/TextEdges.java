/** Boundary cases of promise 8: a shop told by a text, and where its FAULT is. */
final class TextEdges extends Edges {
    private static RentedViews typed(String text) {
        RentedViews x = small();
        x.clear();
        Due.type(x, text);
        return x;
    }

    private static void reads(String text, int items) {
        taken("read() of '" + text + "'", () -> typed(text), x -> x.read(), items);
    }

    /** The FAULT is at that place, and all stays. */
    private static void fault(String text, int place) {
        asks("read() of '" + text + "'", () -> typed(text), x -> x.read(), -10 - place);
    }

    /** A number between two texts: the last that are taken, the first that are not. */
    private static void numbers(String ahead, int least, int most, String behind) {
        int items = (int) (ahead + behind).chars().filter(c -> c == ';').count();
        reads(ahead + least + behind, items);
        reads(ahead + most + behind, items);
        fault(ahead + (least - 1) + behind, ahead.length());
        fault(ahead + (most + 1) + behind, ahead.length());
    }

    // ---- what is read

    static void promise08_anEmptyTextEndsTooEarly() {
        fault("", 0);
    }

    static void promise08_blanksAloneEndTooEarly() {
        fault(" ", 1);
        fault(" ".repeat(150), 150);
    }

    static void promise08_theLeastThatIsRead() {
        reads("shop;", 1);
        due("count(0)", readOf("shop;").count(0), 0);
        due("count(1)", readOf("shop;").count(1), 0);
    }

    static void promise08_theMostThatIsRead() {
        reads(LONGEST, 13);
        due("its bytes", LONGEST.length(), 150);
        String last = "shop;" + "view 0 1 0 0;".repeat(6) + "renter 1 0 0;".repeat(5) + ";";
        fault(last + " ".repeat(150 - last.length()), last.length() - 1);
        String full = "shop;view0 1 0 0;" + "thing0 0;".repeat(14) + " thing0";
        due("its bytes", full.length(), 150);
        fault(full, 150);
        reads(full.substring(0, 143), 16);
    }

    static void promise08_sixOfBothWithoutBlanks() {
        // 5 and 72 and 72 bytes
        reads("shop;" + "view0 1 0 0;".repeat(6) + "renter1 0 6;".repeat(5) + "renter1 9 6;", 13);
    }

    private static RentedViews readOf(String text) {
        RentedViews x = typed(text);
        x.read();
        return x;
    }

    static void promise08_aKindIs0To5() {
        numbers("shop;view ", 0, 5, " 1 0 0;");
    }

    static void promise08_aSizeIs1To9() {
        numbers("shop;view 0 ", 1, 9, " 0 0;");
    }

    static void promise08_aPriceIs0To99() {
        numbers("shop;view 0 1 ", 0, 99, " 0;");
    }

    static void promise08_aWeatherIs0To5() {
        numbers("shop;view 0 1 0 ", 0, 5, ";");
    }

    static void promise08_aWallIs1To9() {
        numbers("shop;renter ", 1, 9, " 0 0;");
    }

    static void promise08_aPurseIs0To999() {
        numbers("shop;renter 1 ", 0, 999, " 0;");
    }

    static void promise08_aWantIs0To6() {
        numbers("shop;renter 1 0 ", 0, 6, ";");
    }

    static void promise08_aThingIs0To7() {
        numbers("shop;view 0 1 0 0;thing 0 ", 0, 7, ";");
    }

    static void promise08_aThingsViewIsThere() {
        numbers("shop;view 0 1 0 0;view 0 1 0 0;thing ", 0, 1, " 0;");
        numbers("shop;" + "view 0 1 0 0;".repeat(6) + "thing ", 0, 5, " 0;");
    }

    static void promise08_alsoAViewThatIsNotThereYet() {
        fault("shop;thing 0 0;", 11);
        fault("shop;thing 0 0;view 0 1 0 0;", 11);
        fault("shop;view 0 1 0 0;thing 1 0;view 0 1 0 0;", 24);
    }

    static void promise08_theLeastAndTheMostAreKept() {
        RentedViews x = readOf("shop;view 0 1 0 0;view 5 9 99 5;renter 1 0 0;renter 9 999 6;thing 1 0;thing 1 7;");
        RentedViews y = typed("shop;view 0 1 0 0;view 5 9 99 5;renter 1 0 0;renter 9 999 6;thing 1 0;thing 1 7;");
        y.shop();
        y.view(0, 1, 0, 0);
        y.view(5, 9, 99, 5);
        y.renter(1, 0, 0);
        y.renter(9, 999, 6);
        y.things(1, 129);
        like("as if they came", x, y);
    }

    static void promise08_aThingAgainStaysIn() {
        due("of(0, 7)", readOf("shop;view 0 1 0 0;thing 0 2;thing 0 2;").of(0, 7), 4);
    }

    // ---- tokens

    static void promise08_oneToThreeFiguresAreOneNumber() {
        reads("shop;renter 1 0 0;", 2);
        reads("shop;renter 01 00 06;", 2);
        reads("shop;renter 001 000 006;", 2);
        due("about(0, 1)", readOf("shop;renter 1 7 0;").about(0, 1), 7);
        due("about(0, 1)", readOf("shop;renter 1 70 0;").about(0, 1), 70);
        due("about(0, 1)", readOf("shop;renter 1 070 0;").about(0, 1), 70);
        due("about(0, 1)", readOf("shop;renter 1 701 0;").about(0, 1), 701);
    }

    static void promise08_aFourthFiguresNumber() {
        fault("shop;view 0000 1 0 0;", 10);
        fault("shop;view 0 0001 0 0;", 12);
        fault("shop;view 0 1 0000 0;", 14);
        fault("shop;view 0 1 0 0000;", 16);
        fault("shop;renter 0001 0 0;", 12);
        fault("shop;renter 1 0999 0;", 14);
        fault("shop;renter 1 0 0006;", 16);
        fault("shop;renter 1 0 00006;", 16);
        fault("shop;renter 1 0 4294967296;", 16);
        fault("shop;renter 1 0 18446744073709551616;", 16);
        fault("shop;view 0 1 0 0;thing 0000 0;", 24);
        fault("shop;view 0 1 0 0;thing 0 0000;", 26);
    }

    static void promise08_wordsAreOfLettersAToZ() {
        for (int c = 0; c < 128; c++) {
            String text = "shop" + (char) c + ";";
            if (c == ' ') {
                reads(text, 1);
            } else if (c >= 'a' && c <= 'z') {
                fault(text, 0);
            } else {
                fault(text, c == ';' ? 5 : 4);
            }
        }
    }

    static void promise08_figuresAre0To9() {
        for (int c = 0; c < 128; c++) {
            String text = "shop;view 0 1 1" + (char) c + " 0;";
            if (c >= '0' && c <= '9') {
                reads(text, 2);
                due("of(0, 2) of '" + text + "'", readOf(text).of(0, 2), 10 + c - '0');
            } else if (c == ' ') {
                reads(text, 2);
            } else {
                fault(text, 15);
            }
        }
    }

    static void promise08_aByteThatBeginsNone() {
        for (int c = 0; c < 128; c++) {
            boolean begins = c == ' ' || c == ';' || c >= 'a' && c <= 'z' || c >= '0' && c <= '9';
            if (!begins) {
                fault((char) c + "shop;", 0);
                fault("shop;" + (char) c, 5);
                fault("shop; view 0 1 0 0 " + (char) c + ";", 19);
            }
        }
    }

    static void promise08_blanksBetween() {
        reads(" shop ; view  0 1   0 0 ;  ", 2);
        reads("shop;view 0 1 0 0;renter 1 0 0;", 3);
        reads("shop;view0 1 0 0;", 2);
        fault("sh op;", 0);
        fault("shop;vi ew 0 1 0 0;", 5);
        fault("shop;view 0 1 0 0 0;", 18);
        fault("shop;renter 1 9 9 9;", 16);
    }

    // ---- items

    static void promise08_shopIsFirstOfAll() {
        fault("view 0 1 0 0;shop;", 0);
        fault("renter 1 0 0;", 0);
        fault("thing 0 0;", 0);
        fault(";shop;", 0);
        fault("0shop;", 0);
        fault("  1 shop;", 2);
    }

    static void promise08_shopOnce() {
        fault("shop;shop;", 5);
        fault("shop shop;", 5);
        fault("shop;view 0 1 0 0; shop;", 19);
    }

    static void promise08_aWordThatIsNone() {
        fault("sho;", 0);
        fault("shops;", 0);
        fault("shoq;", 0);
        fault("thop;", 0);
        fault("shop;vie 0 1 0 0;", 5);
        fault("shop;views 0 1 0 0;", 5);
        fault("shop;vieu 0 1 0 0;", 5);
        fault("shop;rente 1 0 0;", 5);
        fault("shop;renters 1 0 0;", 5);
        fault("shop;renteq 1 0 0;", 5);
        fault("shop;view 0 1 0 0;thin 0 0;", 18);
        fault("shop;view 0 1 0 0;things 0 0;", 18);
        fault("shop;view 0 1 0 0;thinf 0 0;", 18);
        fault("shop;  a;", 7);
    }

    static void promise08_eachItemIsEndedByAMark() {
        fault("shop view 0 1 0 0;", 5);
        fault("shop;view 0 1 0 0 view 0 1 0 0;", 18);
        fault("shop;renter 1 0 0 view 0 1 0 0;", 18);
        fault("shop;view 0 1 0 0;thing 0 0 view 0 1 0 0;", 28);
        fault("shop;;", 5);
        fault("shop;view 0 1 0 0;;", 18);
        fault("shop;renter 1 0 0;;", 18);
        fault("shop;view 0 1 0 0;thing 0 0;;", 28);
    }

    static void promise08_aNumberMayNotBeWanting() {
        fault("shop;view;", 9);
        fault("shop;view 0;", 11);
        fault("shop;view 0 1;", 13);
        fault("shop;view 0 1 0;", 15);
        fault("shop;renter;", 11);
        fault("shop;renter 1;", 13);
        fault("shop;renter 1 0;", 15);
        fault("shop;view 0 1 0 0;thing;", 23);
        fault("shop;view 0 1 0 0;thing 0;", 25);
        fault("shop;view a 1 0 0;", 10);
        fault("shop 0;", 5);
    }

    static void promise08_a7thViewAtItsWord() {
        reads("shop;" + "view 0 1 0 0;".repeat(6), 7);
        fault("shop;" + "view 0 1 0 0;".repeat(7), 83);
        fault("shop;" + "view 0 1 0 0;".repeat(6) + " view 9 9 9 9;", 84);
        fault("shop;" + "view 0 1 0 0;".repeat(6) + "view", 83);
    }

    static void promise08_a7thRenterAtItsWord() {
        reads("shop;" + "renter 1 0 0;".repeat(6), 7);
        fault("shop;" + "renter 1 0 0;".repeat(7), 83);
        fault("shop;" + "renter 1 0 0;".repeat(6) + " renter 0 0 9;", 84);
        fault("shop;" + "renter 1 0 0;".repeat(6) + "renter", 83);
    }

    static void promise08_theFirstTokenThatCanNotStandThere() {
        fault("shop;view 6 0 100 6;", 10);
        fault("shop;view 0 0 100 6;", 12);
        fault("shop;view 0 1 100 6;", 14);
        fault("shop;renter 0 1000 7;#", 12);
        fault("shop;renter 1 1000 7;#", 14);
        fault("shop;view 0 1 0 0#;shop;", 17);
    }

    /** A text cut off anywhere: at the end of an item it is read, in a word that is none its fault. */
    static void promise08_theTextsLengthIfItEndsTooEarly() {
        String whole = "shop; view 3 4 25 1;renter 5 600 6 ;thing 0 7;";
        int items = 0;
        int word = 0;
        for (int end = 1; end <= whole.length(); end++) {
            char last = whole.charAt(end - 1);
            boolean letter = last >= 'a' && last <= 'z';
            word = letter && !Character.isLetter(end > 1 ? whole.charAt(end - 2) : ' ') ? end - 1 : word;
            items += last == ';' ? 1 : 0;
            String text = whole.substring(0, end);
            boolean cut = letter && !text.matches("(.*[^a-z])?(shop|view|renter|thing)");
            if (text.trim().endsWith(";")) {
                reads(text, items);
            } else {
                fault(text, cut ? word : end);
            }
        }
    }

    static void promise08_blanksBehindCountForTheLength() {
        fault("shop   ", 7);
        fault("shop;view 0 1  ", 15);
        fault("shop;view 0 1 0 0  ", 19);
    }

    // ---- what is in its place

    static void promise08_aShopThatIsReadTakesThePlaceOfAll() {
        RentedViews x = full();
        RentedViews y = full();
        x.read();
        y.shop();
        for (int v = 0; v < 6; v++) {
            y.view(0, 1, 0, 0);
        }
        y.things(0, 1);
        like("a shop that is read", x, y);
    }

    static void promise08_eveningTakings0NothingLetHistoryReadingsNone() {
        RentedViews x = full();
        due("read()", x.read(), 13);
        int[] counts = {6, 0, 0, 0, 0, 0, 0, 0, 150};
        for (int what = 0; what <= 8; what++) {
            due("count(" + what + ")", x.count(what), counts[what]);
        }
    }

    static void promise08_nothingToUndo() {
        RentedViews x = full();
        x.read();
        due("undo()", x.undo(), NO);
        x.night();
        due("undo()", x.undo(), 0);
        due("undo()", x.undo(), NO);
    }

    static void promise08_butImages() {
        RentedViews x = full();
        RentedViews y = full();
        x.read();
        for (int i = 0; i < 2; i++) {
            due("from(" + i + ")", x.from(i), 1);
            y.from(i);
            due("digest()", x.digest(), y.digest());
            due("undo()", x.undo(), y.undo());
        }
    }

    static void promise08_butTheText() {
        RentedViews x = full();
        due("read()", x.read(), 13);
        due("count(8)", x.count(8), 150);
        due("read() again", x.read(), 13);
    }

    static void promise08_butTheFraction() {
        RentedViews x = small();
        x.read();
        due("part(0)", x.part(0), 21);
        due("part(1)", x.part(1), 2);
    }

    static void promise08_butStatus() {
        RentedViews x = small();
        x.of(9, 9);
        x.from(0);
        x.read();
        due("status(0)", x.status(0), 1);
        due("status(1)", x.status(1), 1);
        due("status(2)", x.status(2), 0);
    }

    static void promise08_aFaultIsNoneOfStatus() {
        RentedViews x = new RentedViews();
        x.read();
        for (int what = 0; what < 3; what++) {
            due("status(" + what + ")", x.status(what), 0);
        }
    }

    static void promise08_aFaultLateInTheTextLeavesAll() {
        String text = "shop;view 2 2 2 2;renter 2 2 2;thing 0 2;view 2 2 2 6;";
        fault(text, 52);
        RentedViews x = full();
        x.clear();
        Due.type(x, text);
        RentedViews y = full();
        y.clear();
        Due.type(y, text);
        due("read()", x.read(), -62);
        due("read() again", x.read(), -62);
        like("behind a fault", x, y);
    }

    static void promise08_aFaultBehindAReadLeavesWhatWasRead() {
        RentedViews x = readOf("shop;view 0 1 5 0;renter 1 9 6;");
        RentedViews y = readOf("shop;view 0 1 5 0;renter 1 9 6;");
        x.let(0, 0);
        y.let(0, 0);
        due("read()", Due.read(x, "shop;view 2 2 2 2;view 2 2 2 2;shop;"), -41);
        due("read() of less", Due.read(x, "shop;?"), -15);
        y.clear();
        Due.type(y, "shop;?");
        like("what was read", x, y);
    }

    static void promise08_whatWasReadIsUsedAndReadAnew() {
        RentedViews x = readOf("shop;view 0 1 5 0;renter 1 9 6;");
        due("let(0, 0)", x.let(0, 0), 5);
        due("read()", x.read(), 3);
        due("count(4)", x.count(4), 0);
        due("about(0, 1)", x.about(0, 1), 9);
        due("let(0, 0)", x.let(0, 0), 5);
        x.night();
        x.things(0, 255);
        x.reading(0, 0, 0);
        due("read()", x.read(), 3);
        like("read anew", x, readOf("shop;view 0 1 5 0;renter 1 9 6;"));
    }
}
