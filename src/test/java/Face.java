/** Calls the class by the number of a promise. */
final class Face {
    private Face() {
    }

    static long call(CordSeals x, int method, int[] a, long wide) {
        switch (method) {
            case 2: return x.append(a[0]);
            case 3: return x.clearText();
            case 4: return x.errorPosition();
            case 5: return x.load();
            case 6: return x.about(a[0]);
            case 7: return x.ofReign(a[0], a[1]);
            case 8: return x.ofDie(a[0], a[1]);
            case 9: return x.crackYear(a[0], a[1]);
            case 10: return x.ofSeal(a[0], a[1]);
            case 11: return x.dated(a[0], a[1]);
            case 12: return x.isPossible(a[0], a[1]) ? 1 : 0;
            case 13: return x.charter(a[0], a[1]);
            case 14: return x.onShelf(a[0], a[1]);
            case 15: return x.reign(a[0], a[1]);
            case 16: return x.die(a[0], a[1], a[2]);
            case 17: return x.crack(a[0], a[1]);
            case 18: return x.seal(a[0], a[1], a[2], a[3], a[4]);
            case 19: return x.show(a[0], a[1]);
            case 20: return x.hang(a[0], a[1]);
            case 21: return x.cut(a[0]);
            case 22: return x.shelve(a[0], a[1], a[2]);
            case 23: return x.take(a[0]);
            case 24: return x.sort(a[0]);
            case 25: return x.set(a[0], a[1]);
            case 26: return x.undo();
            case 27: return x.older(a[0], a[1]);
            case 28: return x.decides(a[0]);
            case 29: return x.ifCracked(a[0], a[1]);
            case 30: return x.ifHung(a[0], a[1]);
            case 31: return x.inYear(a[0]);
            case 32: return x.leastBubbles(a[0], a[1]);
            case 33: return x.runScript(a[0], wide);
            case 34: return x.simulate(wide, a[0]);
            case 35: return x.save(a[0]);
            case 36: return x.restore(a[0]);
            default: throw new IllegalStateException("no promise " + method);
        }
    }
}
