/**
 * A small collection whose years were found by hand.
 *
 * Reigns: 1100 to 1149 colours 0 and 1; 1150 to 1199 colours 1 and 2; 1200 to 1999 colours 0 and 3.
 * Dies: 0 of house 0, 1090 to 1180, crack 1120; 1 of house 1, 1140 to 1260, cracks 1160 and 1150; 2 of house 0,
 * 1000 to 1099.
 * Seals: 0: 1120 to 1149; 1: 1100 to 1120; 2: 1160 to 1260; 3: a cast, 1140 to 1149; 4: a colour of no reign;
 * 5 and 6: no year; 7: 1200 to 1260; 8: 1150 to 1160.
 */
final class Sample {
    /** The actions that make it, all of them remembered until the oldest ones are forgotten. */
    static final int ACTIONS = 18;

    private Sample() {
    }

    static CordSeals make() {
        CordSeals x = new CordSeals();
        x.reign(1100, 0b0011);
        x.reign(1150, 0b0110);
        x.reign(1200, 0b1001);
        x.die(0, 1090, 1180);
        x.die(1, 1140, 1260);
        x.die(0, 1000, 1099);
        x.crack(0, 1120);
        x.crack(1, 1160);
        x.crack(1, 1150);
        x.seal(0, 0, 0, 5, 0b01);
        x.seal(0, 0, 1, 10, 0);
        x.seal(1, 1, CordSeals.NONE, 3, 0b11);
        x.seal(1, 1, 0, 4, 0);
        x.seal(1, 0, 7, 0, 0);
        x.seal(2, 0, 0, 0, 0);
        x.seal(1, 0, CordSeals.NONE, 0, 0b01);
        x.seal(1, 0, 0, 0, 0b11);
        x.seal(1, 0, 1, 0, 0b10);
        return x;
    }
}
