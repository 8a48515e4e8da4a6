/** Objects with which several tests begin. */
final class Make {
    private Make() {
    }

    static SafeParts parts(int n) {
        SafeParts x = new SafeParts();
        x.parts(n);
        return x;
    }

    /** PARTS with a CHANNEL from each to the next and from the last to the first, all alike. */
    static SafeParts ring(int parts, int promise, int delay) {
        SafeParts x = parts(parts);
        for (int p = 0; p < parts; p++) {
            x.channel(p, (p + 1) % parts, promise, delay);
        }
        return x;
    }

    /** 6 PARTS and 12 CHANNELS: 0 to 5 from each PART to the next, 6 to 11 to the next but one. */
    static SafeParts twelveChannels() {
        SafeParts x = ring(6, 1, 2);
        for (int p = 0; p < 6; p++) {
            x.channel(p, (p + 2) % 6, 1, 2);
        }
        return x;
    }

    /** 30 EVENTS by hand, of all PARTS in turn, without LETTERS. */
    static SafeParts thirtyByHand(int parts) {
        SafeParts x = parts(parts);
        for (int k = 0; k < 30; k++) {
            x.event(k % parts, 100 + k, 0);
        }
        return x;
    }

    /**
     * Chains of LETTERS between PART 0 and PART 1, at 0, 3000 and 6000, of as many EVENTS as told (100 at
     * most, 0 for none). In FORM 1 each EVENT is worked on by LET GO, behind a ROUND that was STILL.
     */
    static SafeParts chains(int parts, int first, int second, int third) {
        SafeParts x = parts(parts);
        x.channel(0, 1, 0, 1);
        x.channel(1, 0, 0, 1);
        x.form(1);
        int[] length = {first, second, third};
        for (int k = 0; k < length.length; k++) {
            if (length[k] > 0) {
                x.event(0, 3000 * k, length[k] - 1);
            }
        }
        return x;
    }

    /**
     * PART 2 worked on 5 (value 60), and a LETTER of 10 (value 19) by CHANNEL 1 waits there. One of 10 may
     * still come by hand, and by CHANNEL 0: from an EVENT of 6 of PART 0.
     */
    static SafeParts letterByTheLaterChannel() {
        SafeParts x = parts(3);
        x.channel(0, 2, 1, 4);
        x.channel(1, 2, 1, 10);
        x.form(1);
        x.event(2, 5, 60);
        x.event(1, 0, 20);
        x.run(1);
        x.letGo();
        return x;
    }
}
