/** Boundary cases of the promises 18 to 21: undo and the snapshot. */
final class UndoEdges {
    private UndoEdges() {
    }

    /** A bench after some changes, each of which appends a letter, b and a by turns. */
    private static LyndonBench changed(int changes) {
        LyndonBench b = new LyndonBench();
        for (int i = 0; i < changes; i++) {
            b.appendLetter(i % 2 == 0 ? 'b' : 'a');
        }
        return b;
    }

    private static String appended(int changes) {
        return "acabaabaccabab" + "babababababababa".substring(0, changes);
    }

    // ---- undo

    @Says("Returns the number of changes that can still be undone, or NONE if there was nothing to undo.")
    static void promise18_nothingToUndo() {
        Checks.refused("-1", LyndonBench::new, LyndonBench::undo);
        LyndonBench b = changed(1);
        Checks.due(0, b::undo);
        Checks.due(-1, b::undo);
        Checks.due(-1, b::undo);
        Checks.due("3 acabaabaccabab [abac ab] 0", () -> Checks.state(b));
    }

    @Says("can be undone, the latest one first; the latest 8 are remembered")
    static void promise18_theLatest8() {
        for (int changes = 7; changes <= 10; changes++) {
            LyndonBench b = changed(changes);
            int remembered = Math.min(changes, 8);
            for (int left = remembered - 1; left >= 0; left--) {
                int want = left;
                String text = appended(changes - remembered + left);
                Checks.due(changes + " changes", want + " " + text, () -> b.undo() + " " + Checks.text(b));
            }
            Checks.due(-1, b::undo);
            Checks.due(appended(changes - remembered), () -> Checks.text(b));
        }
    }

    @Says("Undoes the latest change that has not been undone.")
    static void promise18_changesBehindUndoneOnes() {
        LyndonBench b = changed(3);
        b.undo();
        b.undo();
        b.appendLetter('c');
        Checks.due(2, b::undoCount);
        Checks.due("1 " + appended(1), () -> b.undo() + " " + Checks.text(b));
        Checks.due("0 " + appended(0), () -> b.undo() + " " + Checks.text(b));
        Checks.due(-1, b::undo);
    }

    @Says("Undoes the latest change that has not been undone.")
    static void promise18_undoingIsNoChange() {
        LyndonBench b = changed(2);
        b.undo();
        Checks.due(1, b::undoCount);
        Checks.due("0 " + appended(0), () -> b.undo() + " " + Checks.text(b));
    }

    @Says("Each call of a change that does not throw an exception, and each successful script, can be undone")
    static void promise18_aChangeThatChangesNothing() {
        LyndonBench b = Checks.after("letters 3;text ab;keep;");
        b.setLetters(3);
        b.dropLast(0);
        b.cutPart(0, 2);
        b.rotate(0);
        b.rotateToLeast();
        b.joinKept();
        Checks.due("3 ab [ab] 7", () -> Checks.state(b));
        Checks.due("6 3 ab [ab] 6", () -> b.undo() + " " + Checks.state(b));
    }

    @Says("Each call of a change that does not throw an exception, and each successful script, can be undone")
    static void promise18_eachChangeCanBeUndone() {
        String start = "4 bacabcc [b ca] 1";
        String script = "letters 4;text b;keep;text ca;keep;text bacabcc;";
        for (int change = 0; change < 13; change++) {
            LyndonBench b = Checks.after(script);
            Checks.due(start, () -> Checks.state(b));
            Checks.load(b, "letters 4;text bca;");
            make(b, change);
            Checks.due("change " + change, 2, b::undoCount);
            Checks.due("change " + change, "1 " + start, () -> b.undo() + " " + Checks.state(b));
        }
    }

    private static void make(LyndonBench b, int change) {
        switch (change) {
            case 0 -> b.runScript();
            case 1 -> b.setLetters(9);
            case 2 -> b.readText();
            case 3 -> b.appendLetter('d');
            case 4 -> b.dropLast(7);
            case 5 -> b.cutPart(2, 4);
            case 6 -> b.rotate(3);
            case 7 -> b.reverse();
            case 8 -> b.rotateToLeast();
            case 9 -> b.keepFactor(1);
            case 10 -> b.keepText();
            case 11 -> b.removeKept(0);
            default -> b.joinKept();
        }
    }

    @Says("Each call of a change that does not throw an exception, and each successful script, can be undone")
    static void promise18_nextLyndonCanBeUndone() {
        LyndonBench b = Checks.after("letters 3;text aab;");
        b.nextLyndon(3);
        Checks.due("3 aac [] 2", () -> Checks.state(b));
        Checks.due("1 3 aab [] 1", () -> b.undo() + " " + Checks.state(b));
    }

    private static LyndonBench used() {
        LyndonBench b = Checks.after("letters 3;text ab;");
        b.writeFactors();
        b.saveSnapshot();
        Checks.load(b, "letters 2;?");
        b.runScript();
        b.appendLetter('c');
        Checks.load(b, "abcabc");
        return b;
    }

    @Says("Undoing restores everything except the input buffer, the script error, the report and the snapshot.")
    static void promise18_doesNotRestoreTheInputBuffer() {
        LyndonBench b = used();
        Checks.due(1, b::undo);
        Checks.due(6, () -> Checks.inputLength(b));
        Checks.due(6, b::readText);
        Checks.due("abcabc", () -> Checks.text(b));
        Checks.due(1, b::undo);
        Checks.due(0, () -> Checks.inputLength(b));
        LyndonBench c = new LyndonBench();
        Checks.load(c, "letters 2;text b;");
        c.runScript();
        Checks.due(0, c::undo);
        Checks.due(0, () -> Checks.inputLength(c));
    }

    @Says("Undoing restores everything except the input buffer, the script error, the report and the snapshot.")
    static void promise18_doesNotRestoreTheScriptError() {
        LyndonBench b = used();
        b.undo();
        Checks.due("1 10", () -> b.scriptErrorKind() + " " + b.scriptErrorOffset());
        Checks.load(b, "letters 2;");
        b.runScript();
        b.undo();
        Checks.due("0 -1", () -> b.scriptErrorKind() + " " + b.scriptErrorOffset());
    }

    @Says("Undoing restores everything except the input buffer, the script error, the report and the snapshot.")
    static void promise18_doesNotRestoreTheReport() {
        LyndonBench b = used();
        b.appendLetter('a');
        b.writeFactors();
        b.undo();
        b.undo();
        Checks.due("abc|a", () -> Checks.report(b));
    }

    @Says("Undoing restores everything except the input buffer, the script error, the report and the snapshot.")
    static void promise18_doesNotRestoreTheSnapshot() {
        LyndonBench b = used();
        b.saveSnapshot();
        b.undo();
        Checks.due(3, b::restoreSnapshot);
        Checks.due("3 abc [] 0", () -> Checks.state(b));
        LyndonBench c = new LyndonBench();
        c.appendLetter('a');
        c.saveSnapshot();
        c.undo();
        Checks.due(15, c::restoreSnapshot);
    }

    @Says("Undoing restores everything except")
    static void promise18_restoresLettersTextAndShelf() {
        LyndonBench b = Checks.after("letters 2;text " + Checks.times(40, "b") + ";repeat 8(keep;);append "
            + Checks.times(80, "a") + ";");
        String before = Checks.state(b);
        Checks.load(b, "letters 9;text i;keep;");
        b.runScript();
        Checks.due("9 i [i] 2", () -> Checks.state(b));
        Checks.due(1, b::undo);
        Checks.due(before, () -> Checks.state(b));
    }

    // ---- undoCount

    @Says("the latest 8 are remembered")
    static void promise19_from0To8() {
        for (int changes = 0; changes <= 20; changes++) {
            LyndonBench b = new LyndonBench();
            for (int i = 0; i < changes; i++) {
                b.reverse();
            }
            Checks.due(changes + " changes", Math.min(changes, 8), b::undoCount);
        }
    }

    @Says("A call that throws an exception changes nothing.")
    static void promise19_thrownCallsDoNotCount() {
        LyndonBench b = Checks.after("letters 2;text ba;");
        Checks.all(Checks.ILLEGAL, () -> b.setLetters(1), () -> b.appendLetter('c'), () -> b.dropLast(3),
            () -> b.cutPart(1, 0), () -> b.rotate(-1), () -> b.nextLyndon(0));
        Checks.all(Checks.STATE, () -> b.nextLyndon(2), b::joinKept);
        Checks.all(Checks.INDEX, () -> b.keepFactor(2), () -> b.removeKept(0));
        Checks.due(1, b::undoCount);
    }

    @Says("and each successful script")
    static void promise19_aFailedScriptDoesNotCount() {
        LyndonBench b = new LyndonBench();
        Checks.load(b, "letters 2;?");
        b.runScript();
        Checks.due(0, b::undoCount);
        Checks.load(b, "letters 2;");
        b.runScript();
        Checks.due(1, b::undoCount);
    }

    @Says("The methods from `runScript` to `joinKept` are changes.")
    static void promise19_otherCallsDoNotCount() {
        LyndonBench b = changed(2);
        b.append(0, 0, 0, 0, 0);
        b.truncateInput(0);
        b.saveSnapshot();
        b.writeFactors();
        b.factorsIfAppended('a');
        b.factorsIfRotated(3);
        b.violations();
        b.bruijnLetter(3, 3);
        b.rankOf(0);
        Checks.due(2, b::undoCount);
        b.undo();
        Checks.due(1, b::undoCount);
    }

    // ---- saveSnapshot

    @Says("Saves a snapshot of everything that undo restores, in place of an earlier one. This is not a change.")
    static void promise20_savesLettersTextAndShelf() {
        LyndonBench b = Checks.after("letters 4;text dca;keep;text bd;keep;");
        Checks.due(2, b::saveSnapshot);
        Checks.load(b, "letters 2;text a;");
        b.runScript();
        Checks.due(2, b::restoreSnapshot);
        Checks.due("4 bd [dca bd] 0", () -> Checks.state(b));
    }

    @Says("Saves a snapshot of everything that undo restores, in place of an earlier one. This is not a change.")
    static void promise20_inPlaceOfAnEarlierOne() {
        LyndonBench b = new LyndonBench();
        Checks.due(14, b::saveSnapshot);
        b.dropLast(14);
        Checks.due(0, b::saveSnapshot);
        b.appendLetter('a');
        Checks.due(0, b::restoreSnapshot);
        Checks.due("3  [abac ab] 0", () -> Checks.state(b));
    }

    @Says("Saves a snapshot of everything that undo restores, in place of an earlier one. This is not a change.")
    static void promise20_isNoChange() {
        LyndonBench b = changed(2);
        b.saveSnapshot();
        Checks.due(2, b::undoCount);
        Checks.due("1 " + appended(1), () -> b.undo() + " " + Checks.text(b));
        Checks.due("0 " + appended(0), () -> b.undo() + " " + Checks.text(b));
    }

    @Says("Saves a snapshot of everything that undo restores, in place of an earlier one. This is not a change.")
    static void promise20_laterChangesDoNotReachIt() {
        LyndonBench b = Checks.after("letters 3;text ab;keep;");
        b.saveSnapshot();
        b.reverse();
        b.removeKept(0);
        b.keepText();
        b.setLetters(2);
        b.restoreSnapshot();
        Checks.due("3 ab [ab] 0", () -> Checks.state(b));
    }

    @Says("Returns the length of the text.")
    static void promise20_returnsTheLength() {
        Checks.due(0, () -> Checks.with(2, "").saveSnapshot());
        Checks.due(120, () -> Checks.with(2, Checks.times(120, "a")).saveSnapshot());
    }

    // ---- restoreSnapshot

    @Says("Throws `NoSuchElementException` if no snapshot was saved")
    static void promise21_noSnapshotWasSaved() {
        Checks.refused(Checks.NO_ELEMENT, LyndonBench::new, LyndonBench::restoreSnapshot);
        Checks.refused(Checks.NO_ELEMENT, () -> changed(3), LyndonBench::restoreSnapshot);
    }

    @Says("Restores the snapshot, which stays saved. Nothing can be undone afterwards.")
    static void promise21_staysSaved() {
        LyndonBench b = changed(2);
        b.saveSnapshot();
        for (int i = 0; i < 3; i++) {
            b.dropLast(5);
            Checks.due(16, b::restoreSnapshot);
            Checks.due("3 " + appended(2) + " [abac ab] 0", () -> Checks.state(b));
        }
    }

    @Says("Restores the snapshot, which stays saved. Nothing can be undone afterwards.")
    static void promise21_nothingCanBeUndoneAfterwards() {
        LyndonBench b = changed(9);
        b.saveSnapshot();
        b.reverse();
        b.restoreSnapshot();
        Checks.due(0, b::undoCount);
        Checks.due(-1, b::undo);
        Checks.due(appended(9), () -> Checks.text(b));
        b.appendLetter('a');
        Checks.due(1, b::undoCount);
        Checks.due("0 " + appended(9), () -> b.undo() + " " + Checks.text(b));
    }

    @Says("Saves a snapshot of everything that undo restores")
    static void promise21_doesNotRestoreInputErrorAndReport() {
        LyndonBench b = Checks.after("letters 3;text ab;");
        b.saveSnapshot();
        b.appendLetter('c');
        b.writeFactors();
        Checks.load(b, "?");
        b.runScript();
        Checks.load(b, "ca");
        b.restoreSnapshot();
        Checks.due("3 ab [] 0", () -> Checks.state(b));
        Checks.due("abc 1 0 2", () -> Checks.report(b) + " " + b.scriptErrorKind() + " " + b.scriptErrorOffset() + " "
            + Checks.inputLength(b));
    }
}
